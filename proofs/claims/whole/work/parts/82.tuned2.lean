/-! LAYER 2: tuned, whole -/
/-- one pair of eyes, in both -/
theorem t_one {F p s n b k : Nat} {σ : mMem} {N what : Int} (hF : 2000 ≤ F) (r : Rel σ p s N) (q : QC σ p n (σ 20 5) (σ 20 4) 0 (cB σ 21)) (h3 : σ 20 3 = (p : Int)) (hb : b < n) (hk : σ 20 4 + k ≤ 999 ∧ k ≤ 80) {i a h : Nat} {υ : mMem} (g2 : i = 4 * a + h) (ga : a ≤ 2) (g3 : h ≤ 3) (g9 : FC υ σ) : ∃ (v : Int) (υ1 : mMem), (0 ≤ v ∧ v ≤ 80) ∧ FC υ1 σ ∧ (∀ (k12 : Int → Int → Int → Int → Int → Int → Int → mMem → mRs) (f : Nat) (best xa xh : Int), (-1 ≤ best ∧ best ≤ 80) → g_X0_bestEyes_h21 F 20 k12 (f + 1) (b : Int) (k : Int) what best xa xh (a : Int) (h : Int) υ = (if v ≤ best then g_X0_bestEyes_h21 F 20 k12 f (b : Int) (k : Int) what best xa xh (a : Int) ((h : Int) + 1) υ1 else g_X0_bestEyes_h21 F 20 k12 f (b : Int) (k : Int) what v (a : Int) (h : Int) (a : Int) ((h : Int) + 1) υ1)) ∧ ∀ σ1 τ, FC σ1 σ → TryG τ σ1 → τ 86 57 = (b : Int) → τ 86 60 = -1 → τ 86 62 = 0 → ∃ τ1, (TryG τ1 σ1 ∧ τ1 86 57 = (b : Int) ∧ τ1 86 60 = -1 ∧ τ1 86 62 = 0) ∧ ∀ (f : Nat) (best x4 : Int), (-1 ≤ best ∧ best ≤ 80) → g_X12_tuned_h44 F (f + 1) (b : Int) (k : Int) what x4 best (i : Int) τ = (if v ≤ best then g_X12_tuned_h44 F f (b : Int) (k : Int) what x4 best ((i : Int) + 1) τ1 else g_X12_tuned_h44 F f (b : Int) (k : Int) what (i : Int) v ((i : Int) + 1) τ1) := by
  have n6 := q.1.1
  have hp := q.1.2
  have hs := q.2.2.2.2.1
  have qD : QC σ p n (σ 20 5) (σ 20 4) 0 (xEy (cB σ 21) b (a : Int) (h : Int)) := ⟨q.1, q.2.1, q.2.2.1, q.2.2.2.1, q.2.2.2.2.1, q.2.2.2.2.2.1, xEy_BR (by omega) (by omega) q.2.2.2.2.2.2⟩
  have e20 : υ 20 = σ 20 := g9 20 (by decide)
  have e21 : υ 21 = σ 21 := g9 21 (by decide)
  obtain ⟨υ0, s1, s2, -⟩ := zc_start (F := F) (p := p) (n := n) (o := 29) (σ := υ) (π := σ) (lamp := σ 20 5) (step := σ 20 4) (delay := 0) (Or.inl rfl) n6 hp (by rw [e20]; exact h3) (by rw [e20]) (by rw [e20])
  have ecb : cB υ 21 = cB σ 21 := by
    funext j g
    dsimp only [cB]
    rw [e21]
  rw [ecb] at s2
  have s3 : CR σ p n (σ 20 5) (σ 20 4) 0 (xEy (cB σ 21) b (a : Int) (h : Int)) 0 29 (mup (mup υ0 (29 + 1) (10 * b + 5) (a : Int)) (29 + 1) (10 * b + 6) (h : Int)) υ := by
    obtain ⟨v1, v2, v3, v4, v5⟩ := s2
    refine ⟨fun q hq => by rw [mup_off (by omega), mup_off (by omega)]; exact v1 q hq, fun j hj g hg => ?_, by rw [mup_off (by decide), mup_off (by decide)]; exact v3, by rw [mup_off (by decide), mup_off (by decide)]; exact v4, by rw [mup_off (by decide), mup_off (by decide)]; exact v5⟩
    show mup (mup υ0 (29 + 1) (10 * b + 5) (a : Int)) (29 + 1) (10 * b + 6) (h : Int) (29 + 1) (10 * j + g) = xEy (cB σ 21) b (a : Int) (h : Int) j g
    unfold xEy
    by_cases e : j = b
    · subst e
      rw [if_pos rfl]
      by_cases i5 : g = 5
      · subst i5
        rw [if_pos rfl, mup_ne (by omega), mup_at rfl rfl]
      · by_cases i6 : g = 6
        · subst i6
          rw [if_neg (by decide), if_pos rfl, mup_at rfl rfl]
        · rw [if_neg i5, if_neg i6, mup_ne (by omega), mup_ne (by omega)]
          exact v2 j hj g hg
    · rw [if_neg e, mup_ne (by omega), mup_ne (by omega)]
      exact v2 j hj g hg
  obtain ⟨v, υ1, o1, o2, o3, o4⟩ := j_bs (F := F) (b := b) (k := k) hF qD (g9.peq hp) hb hk k 0 F _ 0 (by omega) (by omega) (by decide) s3
  refine ⟨v, υ1, by omega, o3.tr g9, fun k12 f best xa xh hbest => ?_, fun σ1 τ fc g e57 e60 e62 => ?_⟩
  · conv => lhs; unfold g_X0_bestEyes_h21
    refine e_f (by rw [mw_id (by omega) (by omega), mw_id (by omega) (by omega)]; omega) (e_mob s1 (e_mob (zs_5 (by omega)) (e_mob (zs_6 (by omega)) (e_mob o2 ?_))))
    unfold g_X0_bestEyes_b85
    rw [mw_id (z := v) (by omega) (by omega), mw_id (z := best) (by omega) (by omega)]
  · have g2' : TryG (mup (mup τ 86 58 (a : Int)) 86 59 (h : Int)) σ1 := (g.up (by decide)).up (by decide)
    obtain ⟨w1, w2, w3, w4, w5, -, -⟩ := r.g q.2.2.1 fc g2'
    have e57' : (mup (mup τ 86 58 (a : Int)) 86 59 (h : Int)) 86 57 = (b : Int) := by rw [mup_ne (by decide), mup_ne (by decide)]; exact e57
    have e60' : (mup (mup τ 86 58 (a : Int)) 86 59 (h : Int)) 86 60 = -1 := by rw [mup_ne (by decide), mup_ne (by decide)]; exact e60
    have e62' : (mup (mup τ 86 58 (a : Int)) 86 59 (h : Int)) 86 62 = 0 := by rw [mup_ne (by decide), mup_ne (by decide)]; exact e62
    have e58' : (mup (mup τ 86 58 (a : Int)) 86 59 (h : Int)) 86 58 = (a : Int) := by rw [mup_ne (by decide), mup_at rfl rfl]
    have e59' : (mup (mup τ 86 58 (a : Int)) 86 59 (h : Int)) 86 59 = (h : Int) := mup_at rfl rfl
    obtain ⟨τ0, v1, v2⟩ := zr_startA (F := F) (p := p) (n := n) (π := σ) (τ := mup (mup τ 86 58 (a : Int)) 86 59 (h : Int)) (lamp := σ 20 5) (step := σ 20 4) (delay := 0) (A := xEy (cB σ 21) b (a : Int) (h : Int)) hF n6 w2 w3 w4 (fun j hj => (w5 j hj).2) (r.g57 q.2.2.1 fc g2' e57' e58' e59' e60')
    obtain ⟨τ1, u1, u2⟩ := o4 _ τ0 ⟨w1, by rw [e57']; omega, by rw [e60']; decide, e62', w2⟩ v2
    refine ⟨τ1, ⟨u1.g.tr g2', by rw [u1.2.2.1 57 (by decide) (by decide)]; exact e57', by rw [u1.2.2.1 60 (by decide) (by decide)]; exact e60', by rw [u1.2.2.1 62 (by decide) (by decide)]; exact e62'⟩, fun f best x4 hbest => ?_⟩
    conv => lhs; unfold g_X12_tuned_h44
    rw [mw_id (z := (i : Int)) (by omega) (by omega), mw_id (z := 4) (by decide) (by decide), mw_id (z := 12) (by decide) (by decide), mtdiv (a := (i : Int)) (by omega), mtmod (a := (i : Int)) (by omega), show (i : Int) / 4 = (a : Int) by omega, show (i : Int) % 4 = (h : Int) by omega]
    refine e_f (by omega) (e_f (by decide) (e_mem (e_f (by decide) (e_mem (e_mob v1 ((u2 _ _ _ _ _).trans ?_))))))
    unfold g_X12_tuned_b143
    rw [mw_id (z := v) (by omega) (by omega), mw_id (z := best) (by omega) (by omega)]
    by_cases c : v ≤ best
    · rw [if_pos c, if_neg (by omega)]
    · rw [if_neg c, if_pos (by omega)]
/-- what is answered -/
theorem t_end {F : Nat} {υ τ : mMem} {b k : Int} {what best xa xh x4 : Int} {f g : Nat} (hw : 0 ≤ what ∧ what ≤ 2) (hx : x4 = 4 * xa + xh ∧ (0 ≤ xa ∧ xa ≤ 2) ∧ (0 ≤ xh ∧ xh ≤ 3) ∧ 0 ≤ best) : g_X0_bestEyes_h12 F 20 (f + 1) b k what best xa xh 3 υ = some (if what = 0 then xa else if what = 1 then xh else best, υ) ∧ g_X12_tuned_h44 F (g + 1) b k what x4 best 12 τ = some (if what = 0 then xa else if what = 1 then xh else best, mup τ 86 57 (-1)) := by
  refine ⟨?_, ?_⟩
  · unfold g_X0_bestEyes_h12 g_X0_bestEyes_b118
    refine e_t (by decide) ?_
    rcases (by omega : what = 0 ∨ what = 1 ∨ what = 2) with rfl | rfl | rfl
    · exact e_f (by decide) rfl
    · exact e_t (by decide) (e_f (by decide) rfl)
    · exact e_t (by decide) (e_t (by decide) rfl)
  · unfold g_X12_tuned_h44 g_X12_tuned_b179
    refine e_t (by decide) (e_mem ?_)
    rw [mw_id (z := x4) (by omega) (by omega), mw_id (z := 4) (by decide) (by decide), mtdiv (by omega), mtmod (by omega), show x4 / 4 = xa by omega, show x4 % 4 = xh by omega]
    rcases (by omega : what = 0 ∨ what = 1 ∨ what = 2) with rfl | rfl | rfl
    · exact e_f (by decide) (e_f (by decide) rfl)
    · exact e_t (by decide) (e_f (by decide) (e_f (by decide) rfl))
    · exact e_t (by decide) (e_t (by decide) rfl)
theorem j_tu {F p s n b k : Nat} {σ : mMem} {N what : Int} (hF : 2000 ≤ F) (r : Rel σ p s N) (q : QC σ p n (σ 20 5) (σ 20 4) 0 (cB σ 21)) (h3 : σ 20 3 = (p : Int)) (hb : b < n) (hk : σ 20 4 + k ≤ 999 ∧ k ≤ 80) (hw : 0 ≤ what ∧ what ≤ 2) : ∀ (d i a h fo fi fr : Nat) (υ : mMem) (best xa xh x4 : Int), d + i = 11 → i = 4 * a + h → h ≤ 3 → 5 < fi + h → 3 < fo + a → d + 1 < fr → (-1 ≤ best ∧ best ≤ 80) → ((i = 0 ∧ best = -1) ∨ (x4 = 4 * xa + xh ∧ (0 ≤ xa ∧ xa ≤ 2) ∧ (0 ≤ xh ∧ xh ≤ 3) ∧ 0 ≤ best)) → FC υ σ → ∃ x σ', g_X0_bestEyes_h21 F 20 (g_X0_bestEyes_h12 F 20 fo) fi (b : Int) (k : Int) what best xa xh (a : Int) (h : Int) υ = some (x, σ') ∧ FC σ' σ ∧ ∀ σ1 τ, FC σ1 σ → TryG τ σ1 → τ 86 57 = (b : Int) → τ 86 60 = -1 → τ 86 62 = 0 → ∃ τ', g_X12_tuned_h44 F fr (b : Int) (k : Int) what x4 best (i : Int) τ = some (x, τ') ∧ TryG τ' σ1 ∧ τ' 86 57 = -1 ∧ τ' 86 60 = -1 ∧ τ' 86 62 = 0 := by
  intro d
  induction d with
  | zero =>
    intro i a h fo fi fr υ best xa xh x4 g1 g2 g3 g4 g5 g6 g7 g8 g9
    obtain ⟨f, rfl⟩ : ∃ f, fi = f + 1 + 1 := ⟨fi - 2, by omega⟩
    obtain ⟨fo', rfl⟩ : ∃ f, fo = f + 1 := ⟨fo - 1, by omega⟩
    obtain ⟨fr', rfl⟩ : ∃ f, fr = f + 1 + 1 := ⟨fr - 2, by omega⟩
    have ea : a = 2 := by omega
    have eh : h = 3 := by omega
    have ei : i = 11 := by omega
    subst ea eh ei
    obtain ⟨v, υ1, o1, o2, o3, o4⟩ := t_one (F := F) (b := b) (k := k) (what := what) (i := 11) (a := 2) (h := 3) (υ := υ) hF r q h3 hb hk (by decide) (by decide) (by decide) g9
    have fin : ∀ (B xa' xh' : Int), g_X0_bestEyes_h21 F 20 (g_X0_bestEyes_h12 F 20 (fo' + 1)) (f + 1) (b : Int) (k : Int) what B xa' xh' ((2 : Nat) : Int) (((3 : Nat) : Int) + 1) υ1 = g_X0_bestEyes_h12 F 20 (fo' + 1) (b : Int) (k : Int) what B xa' xh' 3 υ1 := by
      intro B xa' xh'
      conv => lhs; unfold g_X0_bestEyes_h21
      exact e_t (by decide) rfl
    obtain ⟨B, xa', xh', x4', hB, hc, hl⟩ : ∃ B xa' xh' x4' : Int, (x4' = 4 * xa' + xh' ∧ (0 ≤ xa' ∧ xa' ≤ 2) ∧ (0 ≤ xh' ∧ xh' ≤ 3) ∧ 0 ≤ B) ∧ (g_X0_bestEyes_h21 F 20 (g_X0_bestEyes_h12 F 20 (fo' + 1)) (f + 1 + 1) (b : Int) (k : Int) what best xa xh ((2 : Nat) : Int) ((3 : Nat) : Int) υ = g_X0_bestEyes_h12 F 20 (fo' + 1) (b : Int) (k : Int) what B xa' xh' 3 υ1) ∧ ∀ τ τ1, (∀ (f : Nat) (best x4 : Int), (-1 ≤ best ∧ best ≤ 80) → g_X12_tuned_h44 F (f + 1) (b : Int) (k : Int) what x4 best ((11 : Nat) : Int) τ = (if v ≤ best then g_X12_tuned_h44 F f (b : Int) (k : Int) what x4 best (((11 : Nat) : Int) + 1) τ1 else g_X12_tuned_h44 F f (b : Int) (k : Int) what ((11 : Nat) : Int) v (((11 : Nat) : Int) + 1) τ1)) → g_X12_tuned_h44 F (fr' + 1 + 1) (b : Int) (k : Int) what x4 best ((11 : Nat) : Int) τ = g_X12_tuned_h44 F (fr' + 1) (b : Int) (k : Int) what x4' B 12 τ1 := by
      by_cases c : v ≤ best
      · refine ⟨best, xa, xh, x4, by omega, ?_, fun τ τ1 hh => ?_⟩
        · rw [o3 _ _ _ _ _ g7, if_pos c, fin]
        · rw [hh _ _ _ g7, if_pos c]
          rfl
      · refine ⟨v, 2, 3, 11, by omega, ?_, fun τ τ1 hh => ?_⟩
        · rw [o3 _ _ _ _ _ g7, if_neg c, fin]
          rfl
        · rw [hh _ _ _ g7, if_neg c]
          rfl
    have te := fun τ => t_end (F := F) (υ := υ1) (τ := τ) (b := (b : Int)) (k := (k : Int)) (f := fo') (g := fr') hw hB
    refine ⟨_, υ1, hc.trans (te υ1).1, o2, fun σ1 τ fc g e57 e60 e62 => ?_⟩
    obtain ⟨τ1, ⟨y1, y2, y3, y4⟩, y5⟩ := o4 σ1 τ fc g e57 e60 e62
    exact ⟨mup τ1 86 57 (-1), (hl τ τ1 y5).trans (te τ1).2, y1.up (by decide), mup_at rfl rfl, by rw [mup_ne (by decide)]; exact y3, by rw [mup_ne (by decide)]; exact y4⟩
  | succ d ih =>
    intro i a h fo fi fr υ best xa xh x4 g1 g2 g3 g4 g5 g6 g7 g8 g9
    obtain ⟨f, rfl⟩ : ∃ f, fi = f + 1 + 1 := ⟨fi - 2, by omega⟩
    obtain ⟨fo', rfl⟩ : ∃ f, fo = f + 1 := ⟨fo - 1, by omega⟩
    obtain ⟨fr', rfl⟩ : ∃ f, fr = f + 1 := ⟨fr - 1, by omega⟩
    have ga : a ≤ 2 := by omega
    obtain ⟨v, υ1, o1, o2, o3, o4⟩ := t_one (F := F) (b := b) (k := k) (what := what) (i := i) (a := a) (h := h) (υ := υ) hF r q h3 hb hk g2 ga g3 g9
    obtain ⟨B, xa', xh', x4', hB7, hB, hc, hl⟩ : ∃ B xa' xh' x4' : Int, (-1 ≤ B ∧ B ≤ 80) ∧ (x4' = 4 * xa' + xh' ∧ (0 ≤ xa' ∧ xa' ≤ 2) ∧ (0 ≤ xh' ∧ xh' ≤ 3) ∧ 0 ≤ B) ∧ (g_X0_bestEyes_h21 F 20 (g_X0_bestEyes_h12 F 20 (fo' + 1)) (f + 1 + 1) (b : Int) (k : Int) what best xa xh (a : Int) (h : Int) υ = g_X0_bestEyes_h21 F 20 (g_X0_bestEyes_h12 F 20 (fo' + 1)) (f + 1) (b : Int) (k : Int) what B xa' xh' (a : Int) ((h : Int) + 1) υ1) ∧ ∀ τ τ1, (∀ (f : Nat) (best x4 : Int), (-1 ≤ best ∧ best ≤ 80) → g_X12_tuned_h44 F (f + 1) (b : Int) (k : Int) what x4 best (i : Int) τ = (if v ≤ best then g_X12_tuned_h44 F f (b : Int) (k : Int) what x4 best ((i : Int) + 1) τ1 else g_X12_tuned_h44 F f (b : Int) (k : Int) what (i : Int) v ((i : Int) + 1) τ1)) → g_X12_tuned_h44 F (fr' + 1) (b : Int) (k : Int) what x4 best (i : Int) τ = g_X12_tuned_h44 F fr' (b : Int) (k : Int) what x4' B ((i : Int) + 1) τ1 := by
      by_cases c : v ≤ best
      · refine ⟨best, xa, xh, x4, g7, by omega, ?_, fun τ τ1 hh => ?_⟩
        · rw [o3 _ _ _ _ _ g7, if_pos c]
        · rw [hh _ _ _ g7, if_pos c]
      · refine ⟨v, (a : Int), (h : Int), (i : Int), by omega, by omega, ?_, fun τ τ1 hh => ?_⟩
        · rw [o3 _ _ _ _ _ g7, if_neg c]
        · rw [hh _ _ _ g7, if_neg c]
    have nx : ∃ x σ', g_X0_bestEyes_h21 F 20 (g_X0_bestEyes_h12 F 20 (fo' + 1)) (f + 1) (b : Int) (k : Int) what B xa' xh' (a : Int) ((h : Int) + 1) υ1 = some (x, σ') ∧ FC σ' σ ∧ ∀ σ1 τ, FC σ1 σ → TryG τ σ1 → τ 86 57 = (b : Int) → τ 86 60 = -1 → τ 86 62 = 0 → ∃ τ', g_X12_tuned_h44 F fr' (b : Int) (k : Int) what x4' B ((i + 1 : Nat) : Int) τ = some (x, τ') ∧ TryG τ' σ1 ∧ τ' 86 57 = -1 ∧ τ' 86 60 = -1 ∧ τ' 86 62 = 0 := by
      by_cases ch : h = 3
      · subst ch
        obtain ⟨x, σ', t1, t2, t3⟩ := ih (i + 1) (a + 1) 0 fo' F fr' υ1 B xa' xh' x4' (by omega) (by omega) (by omega) (by omega) (by omega) (by omega) hB7 (Or.inr hB) o2
        refine ⟨x, σ', ?_, t2, t3⟩
        rw [← t1]
        conv => lhs; unfold g_X0_bestEyes_h21
        refine e_t (by decide) ?_
        unfold g_X0_bestEyes_h12
        refine e_f (by rw [mw_id (by omega) (by omega), mw_id (by omega) (by omega)]; omega) ?_
        rw [show ((a + 1 : Nat) : Int) = (a : Int) + 1 by omega]
        rfl
      · obtain ⟨x, σ', t1, t2, t3⟩ := ih (i + 1) a (h + 1) (fo' + 1) (f + 1) fr' υ1 B xa' xh' x4' (by omega) (by omega) (by omega) (by omega) (by omega) (by omega) hB7 (Or.inr hB) o2
        refine ⟨x, σ', ?_, t2, t3⟩
        rw [← t1, show ((h + 1 : Nat) : Int) = (h : Int) + 1 by omega]
    obtain ⟨x, σ', t1, t2, t3⟩ := nx
    refine ⟨x, σ', hc.trans t1, t2, fun σ1 τ fc g e57 e60 e62 => ?_⟩
    obtain ⟨τ1, ⟨y1, y2, y3, y4⟩, y5⟩ := o4 σ1 τ fc g e57 e60 e62
    obtain ⟨τ', z1, z2⟩ := t3 σ1 τ1 fc y1 y2 y3 y4
    refine ⟨τ', (hl τ τ1 y5).trans ?_, z2⟩
    rw [← z1, show ((i + 1 : Nat) : Int) = (i : Int) + 1 by omega]
theorem a_tuned {F : Nat} {σ : mMem} {p s : Nat} {N x y z : Int} (hF : 2000 ≤ F) (hx : i32 x) (hy : i32 y) (hz : i32 z) (r : Rel σ p s N) : Alk (g_X11_tuned F x y z) (g_X12_tuned F x y z) σ N := by
  have sm := r.same (N' := N + 1) (by omega) (fun _ _ _ => rfl) (fun _ _ _ => rfl)
  obtain ⟨hp, h08, h08n, h20, h20n, hP, hR, h11, h9, h10, hB, hst, hla, h57, h60, h62⟩ := r.now
  obtain ⟨n, q, h3, hE, hc, hq⟩ := r.q
  have n11 := q.2.2.1
  have n6 := q.1.1
  unfold Alk g_X11_tuned g_X12_tuned g_X11_tuned_b34 g_X12_tuned_b28
  rw [h08n]
  simp only [if_pos h08, zc_hasBox hx h11, mob_sm, mw_id hz.1 hz.2, show mw 2 = 2 by decide]
  by_cases c1 : 0 ≤ x ∧ x < σ p 11
  · by_cases c2 : 1 ≤ y ∧ y ≤ 60 ∧ σ 20 4 ≤ 999 - y
    · by_cases c3 : 0 ≤ z ∧ z ≤ 2
      · obtain ⟨b, eb⟩ : ∃ b : Nat, x = (b : Int) := ⟨x.toNat, by omega⟩
        subst eb
        obtain ⟨k, ek⟩ : ∃ k : Nat, y = (k : Int) := ⟨y.toNat, by omega⟩
        subst ek
        obtain ⟨f, hf⟩ : ∃ f, F = f + 1 := ⟨F - 1, by omega⟩
        obtain ⟨w, σ1, t1, t2, t3⟩ := j_tu (F := F) (b := b) (k := k) (what := z) hF r q h3 (by omega) (by omega) c3 11 0 0 0 f F F σ (-1) 0 0 (-1) (by omega) (by omega) (by omega) (by omega) (by omega) (by omega) (by decide) (Or.inl ⟨rfl, rfl⟩) (fun _ _ => rfl)
        have g1 : TryG (mup σ1 86 57 (b : Int)) σ1 := TryG.rfl'.up (by decide)
        obtain ⟨τ', z1, z2, z3, z4, z5⟩ := t3 σ1 (mup σ1 86 57 (b : Int)) t2 g1 (mup_at rfl rfl) (by rw [mup_ne (by decide), t2 86 (by decide)]; exact h60) (by rw [mup_ne (by decide), t2 86 (by decide)]; exact h62)
        obtain ⟨u, -, -⟩ := hq σ1 t2
        refine ⟨w, σ1, τ', p, s, ?_, e_mob (zr_isBox hx u.1 h11) ?_, (r.g q.2.2.1 t2 z2).2.2.2.2.2.2 z3 z4 z5⟩
        · rw [mb_t c1]
          refine e_f (by decide) (e_mob (zc_may hy hst.2 (by decide) (by decide)) ?_)
          rw [mb_t c2]
          refine e_f (by decide) (e_f (by omega) (e_t c3.2 (e_mob ?_ rfl)))
          unfold g_X0_bestEyes
          have : ∀ g, g = f + 1 → g_X0_bestEyes_h12 F 20 g (b : Int) (k : Int) z (-1) 0 0 0 σ = some (w, σ1) := by
            intro g hg
            subst hg
            unfold g_X0_bestEyes_h12
            exact e_f (by decide) t1
          exact this F hf
        · rw [mb_t c1]
          refine e_f (by decide) (e_mob (zr_ahead hy (by rw [u.2.2.2.2]; exact hst.2) (by decide) (by decide)) ?_)
          rw [u.2.2.2.2, mb_t c2]
          refine e_f (by decide) (e_mob (zr_isi (by omega)) ?_)
          rw [mb_t c3]
          exact e_t (by decide) (e_mem z1)
      · refine ⟨-1, σ, σ, p, s, ?_, e_mob (zr_isBox hx hR h11) ?_, sm⟩
        · rw [mb_t c1]
          refine e_f (by decide) (e_mob (zc_may hy hst.2 (by decide) (by decide)) ?_)
          rw [mb_t c2]
          refine e_f (by decide) ?_
          by_cases c4 : z < 0
          · exact e_t c4 rfl
          · exact e_f c4 (e_f (by omega) rfl)
        · rw [mb_t c1]
          refine e_f (by decide) (e_mob (zr_ahead hy (by rw [hst.1]; exact hst.2) (by decide) (by decide)) ?_)
          rw [hst.1, mb_t c2]
          refine e_f (by decide) (e_mob (zr_isi (by omega)) ?_)
          rw [mb_f c3]
          exact e_f (by decide) rfl
    · refine ⟨-1, σ, σ, p, s, ?_, e_mob (zr_isBox hx hR h11) ?_, sm⟩
      · rw [mb_t c1]
        refine e_f (by decide) (e_mob (zc_may hy hst.2 (by decide) (by decide)) ?_)
        rw [mb_f c2]
        exact e_t (by decide) rfl
      · rw [mb_t c1]
        refine e_f (by decide) (e_mob (zr_ahead hy (by rw [hst.1]; exact hst.2) (by decide) (by decide)) ?_)
        rw [hst.1, mb_f c2]
        exact e_t (by decide) rfl
  · refine ⟨-1, σ, σ, p, s, ?_, e_mob (zr_isBox hx hR h11) ?_, sm⟩
    · rw [mb_f c1]
      exact e_t (by decide) rfl
    · rw [mb_f c1]
      exact e_t (by decide) rfl
