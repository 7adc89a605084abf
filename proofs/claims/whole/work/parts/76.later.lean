/-! LAYER 2: later, loses, jam -/
theorem xWf01 {π : mMem} {p : Nat} {lamp step made delay : Int} {A : Nat → Nat → Int} {k : Nat} : xWf π p lamp step made delay A k = 0 ∨ xWf π p lamp step made delay A k = 1 := by
  unfold xWf
  have := mb_rng (xAct made delay (xPs π p lamp step made delay k A) k ∧ xWent π p lamp step (xPs π p lamp step made delay k A) (xPs π p lamp step made delay k A k))
  omega
theorem xKf01 {π : mMem} {p : Nat} {lamp step made delay : Int} {A : Nat → Nat → Int} {k : Nat} : xKf π p lamp step made delay A k = 0 ∨ xKf π p lamp step made delay A k = 1 := by
  unfold xKf
  have := mb_rng (xAct made delay (xPs π p lamp step made delay k A) k ∧ xBlk π p lamp step (xPs π p lamp step made delay k A) (xPs π p lamp step made delay k A k))
  omega
theorem pow_le6 {n : Nat} (h : n ≤ 6) : (2 : Int) ^ n ≤ 64 := by
  rcases (by omega : n = 0 ∨ n = 1 ∨ n = 2 ∨ n = 3 ∨ n = 4 ∨ n = 5 ∨ n = 6) with rfl | rfl | rfl | rfl | rfl | rfl | rfl <;> decide
theorem bit_of {f : Nat → Int} {n b : Nat} (hn : n ≤ 6) (hb : b < n) (hf : ∀ j, j < n → f j = 0 ∨ f j = 1) : mand (mshr (xBits f n) (b : Int)) 1 = f b := by
  have r := xBits_rng hf
  have p6 := pow_le6 hn
  have h1 := bit_at ⟨b, by omega⟩ ⟨(xBits f n).toNat, by omega⟩
  have h2 := xBits_div (f := f) (b := b) (n - b - 1) (fun j hj => hf j (by omega))
  rw [show b + 1 + (n - b - 1) = n by omega] at h2
  simp only at h1
  rw [show (((xBits f n).toNat : Nat) : Int) = xBits f n by omega] at h1
  rw [h1, ← h2]
  simp only [Int.natCast_emod, Int.natCast_ediv, Int.natCast_pow, Int.cast_ofNat_Int]
  rw [show (((xBits f n).toNat : Nat) : Int) = xBits f n by omega]
theorem zr_lat {F b : Nat} {τ : mMem} {B : Nat → Int} {what acc : Int} (hb : b < 6) (hw : 0 ≤ what ∧ what ≤ 4) (hB : BEq (rB τ 1 b) B) (hc : 0 ≤ τ 112 (6 + b) ∧ τ 112 (6 + b) ≤ 80) :
    (mlet (6 + (b : Int)) (fun y209 => if ¬ mw what = 0 then (if ¬ mw what = mw 1 then (if ¬ mw what = mw 2 then (if ¬ mw what = mw 3 then (g_X12_later_b147 F acc τ) else (if 0 ≤ mw y209 ∧ mw y209 < (132 : Int) then g_X12_later_b147 F (τ 115 (mw y209).toNat) τ else none)) else (if 0 ≤ mw y209 ∧ mw y209 < (132 : Int) then g_X12_later_b147 F (τ 113 (mw y209).toNat) τ else none)) else (if 0 ≤ mw y209 ∧ mw y209 < (132 : Int) then if mw 9 = 0 then none else (g_X12_later_b147 F ((mw (τ 112 (mw y209).toNat)).tdiv (mw 9)) τ) else none)) else (if 0 ≤ mw y209 ∧ mw y209 < (132 : Int) then if mw 9 = 0 then none else (g_X12_later_b147 F ((mw (τ 112 (mw y209).toNat)).tmod (mw 9)) τ) else none))) = some (if what = 0 then B 0 else if what = 1 then B 1 else if what = 2 then B 2 else if what = 3 then B 4 else acc, τ) := by
  have b0 := hB 0 (by decide)
  have b1 := hB 1 (by decide)
  have b2 := hB 2 (by decide)
  have b4 := hB 4 (by decide)
  rw [rB_0, show 6 * 1 + b = 6 + b by omega] at b0
  rw [rB_1, show 6 * 1 + b = 6 + b by omega] at b1
  rw [rB_2, show 6 * 1 + b = 6 + b by omega] at b2
  rw [rB_4, show 6 * 1 + b = 6 + b by omega] at b4
  refine e_let ?_
  rw [mw_id (z := 6 + (b : Int)) (by omega) (by omega), show (6 + (b : Int)).toNat = 6 + b by omega, mw_id (z := τ 112 (6 + b)) (by omega) (by omega), mw_id (z := 9) (by decide) (by decide), Int.tmod_eq_emod_of_nonneg hc.1, Int.tdiv_eq_ediv_of_nonneg hc.1, b0, b1, b2, b4]
  rcases (by omega : what = 0 ∨ what = 1 ∨ what = 2 ∨ what = 3 ∨ what = 4) with rfl | rfl | rfl | rfl | rfl
  · exact e_f (by decide) (e_t (by omega) (e_f (by decide) rfl))
  · exact e_t (by decide) (e_f (by decide) (e_t (by omega) (e_f (by decide) rfl)))
  · exact e_t (by decide) (e_t (by decide) (e_f (by decide) (e_t (by omega) rfl)))
  · exact e_t (by decide) (e_t (by decide) (e_t (by decide) (e_f (by decide) (e_t (by omega) rfl))))
  · exact e_t (by decide) (e_t (by decide) (e_t (by decide) (e_t (by decide) rfl)))
theorem j_later {F p n b k : Nat} {π σ0 : mMem} {lamp step what : Int} {A : Nat → Nat → Int} (hF : 2000 ≤ F) (q : QC π p n lamp step 0 A) (hσ : PEq σ0 π p) (hb : b < n) (hk : step + k ≤ 999 ∧ k ≤ 80) (hw : 0 ≤ what ∧ what ≤ 4) : ∀ (d m fuel : Nat) (υ : mMem) (acc : Int), d + m = k → d < fuel → 0 ≤ acc ∧ acc ≤ m → CR π p n lamp step 0 A m 29 υ σ0 → υ 30 (10 * b + 9) = acc → ∃ x σ', g_X0_stateBehind_h22 F 20 fuel (b : Int) (k : Int) what (m : Int) υ = some (x, σ') ∧ FC σ' σ0 ∧ ∀ τ0 τ, QR π p step 0 τ0 → LR π p n lamp step 0 A m τ τ0 → ∃ τ', g_X12_later_h42 F fuel (b : Int) (k : Int) what acc (m : Int) τ = some (x, τ') ∧ TryF τ' τ0 := by
  have n6 := q.1.1
  intro d
  induction d with
  | zero =>
    intro m fuel υ acc h1 h2 h3 h h9
    obtain ⟨f, rfl⟩ : ∃ f, fuel = f + 1 := ⟨fuel - 1, by omega⟩
    have B := h.2.1 b hb
    refine ⟨if what = 0 then xIt π p n lamp step 0 A m b 0 else if what = 1 then xIt π p n lamp step 0 A m b 1 else if what = 2 then xIt π p n lamp step 0 A m b 2 else if what = 3 then xIt π p n lamp step 0 A m b 4 else acc, υ, ?_, h.1, fun τ0 τ hr hL => ⟨τ, ?_, hL.1⟩⟩
    · unfold g_X0_stateBehind_h22 g_X0_stateBehind_b77
      refine e_t (by rw [mw_id (by omega) (by omega), mw_id (by omega) (by omega)]; omega) ?_
      rcases (by omega : what = 0 ∨ what = 1 ∨ what = 2 ∨ what = 3 ∨ what = 4) with rfl | rfl | rfl | rfl | rfl
      · refine e_t (by decide) (e_t (by decide) (e_mob (zo_0 (by omega)) ?_))
        rw [show υ (29 + 1) (10 * b + 0) = _ from B 0 (by decide)]; rfl
      · refine e_t (by decide) (e_t (by decide) (e_mob (zo_1 (by omega)) ?_))
        rw [show υ (29 + 1) (10 * b + 1) = _ from B 1 (by decide)]; rfl
      · refine e_t (by decide) (e_t (by decide) (e_mob (zo_2 (by omega)) ?_))
        rw [show υ (29 + 1) (10 * b + 2) = _ from B 2 (by decide)]; rfl
      · refine e_t (by decide) (e_f (by decide) (e_mob (zo_4 (by omega)) ?_))
        rw [show υ (29 + 1) (10 * b + 4) = _ from B 4 (by decide)]; rfl
      · refine e_f (by decide) (e_mob (zo_9 (by omega)) ?_)
        rw [show υ (29 + 1) (10 * b + 9) = acc from h9]; rfl
    · unfold g_X12_later_h42
      refine e_t (by rw [mw_id (by omega) (by omega), mw_id (by omega) (by omega)]; omega) ?_
      exact zr_lat (by omega) hw (hL.2.1 b hb).1 (hL.2.1 b hb).2
  | succ d ih =>
    intro m fuel υ acc h1 h2 h3 h h9
    obtain ⟨f, rfl⟩ : ∃ f, fuel = f + 1 := ⟨fuel - 1, by omega⟩
    obtain ⟨υ1, a1, a2, -, a4, -⟩ := q.c (F := F) (made := 0) hF hσ (by omega) (by decide) (fun _ _ => made0) h
    have kf := xKf01 (π := π) (p := p) (lamp := lamp) (step := step + m) (made := (m : Int)) (delay := 0) (A := xIt π p n lamp step 0 A m) (k := b)
    have e9 := a4 b hb
    rw [h9] at e9
    obtain ⟨x, σ', t1, t2, t3⟩ := ih (m + 1) f υ1 (acc + xKf π p lamp (step + m) m 0 (xIt π p n lamp step 0 A m) b) (by omega) (by omega) (by omega) a2 e9
    refine ⟨x, σ', ?_, t2, fun τ0 τ hr hL => ?_⟩
    · unfold g_X0_stateBehind_h22
      refine e_f (by rw [mw_id (by omega) (by omega), mw_id (by omega) (by omega)]; omega) (e_mob a1 ?_)
      rw [← t1, show ((m + 1 : Nat) : Int) = (m : Int) + 1 by omega]
    · obtain ⟨τ1, b1, b2, -, b4⟩ := q.r (F := F) hF hr (by omega) hL
      obtain ⟨τ', u1, u2⟩ := t3 τ0 τ1 hr b2
      refine ⟨τ', ?_, u2⟩
      unfold g_X12_later_h42
      refine e_f (by rw [mw_id (by omega) (by omega), mw_id (by omega) (by omega)]; omega) (e_mob b1 (e_let ?_))
      rw [b4, bit_of n6 hb (fun j _ => xKf01), ← u1, show ((m + 1 : Nat) : Int) = (m : Int) + 1 by omega]
theorem a_later {F : Nat} {σ : mMem} {p s : Nat} {N x y z : Int} (hF : 2000 ≤ F) (hx : i32 x) (hy : i32 y) (hz : i32 z) (r : Rel σ p s N) : Alk (g_X11_later F x y z) (g_X12_later F x y z) σ N := by
  have sm := r.same (N' := N + 1) (by omega) (fun _ _ _ => rfl) (fun _ _ _ => rfl)
  obtain ⟨hp, h08, h08n, h20, h20n, hP, hR, h11, h9, h10, hB, hst, hla, h57, h60, h62⟩ := r.now
  obtain ⟨n, q, h3, hE, hc, hq⟩ := r.q
  have n11 := q.2.2.1
  have n6 := q.1.1
  have ec : ∀ X, (if mw (mb (0 ≤ x ∧ x < σ p 11)) = 0 then (g_X11_later_b34 F σ) else (if mw (mb (0 ≤ y ∧ y ≤ 80 ∧ σ 20 4 ≤ 999 - y)) = 0 then (g_X11_later_b34 F σ) else (if mw z < 0 then (g_X11_later_b34 F σ) else (if mw z ≤ mw 4 then (mob (g_X0_stateBehind F 20 x y z σ) (fun r6 σ7 => some (r6, σ7))) else (g_X11_later_b34 F σ))))) = X → g_X11_later F x y z σ = X := by
    intro X hX
    unfold g_X11_later
    rw [h08n]
    refine e_t h08 (e_mob (zc_hasBox hx h11) (Eq.trans ?_ hX))
    by_cases c : mw (mb (0 ≤ x ∧ x < σ p 11)) = 0
    · exact (if_pos c).trans (if_pos c).symm
    · refine e_f c (e_mob (zc_may hy hst.2 (by decide) (by decide)) ?_)
      exact (if_neg c).symm
  have er : ∀ σ1 X, FC σ1 σ → QR σ p (σ 20 4) 0 σ1 → (if mw (mb (0 ≤ x ∧ x < σ p 11)) = 0 then (g_X12_later_b28 F σ1) else (if mw (mb (0 ≤ y ∧ y ≤ 80 ∧ σ 20 4 ≤ 999 - y)) = 0 then (g_X12_later_b28 F σ1) else (if ¬ mw (mb (0 ≤ z ∧ z ≤ 4)) = 0 then (mob (g_X12_copies F 1 0 σ1) (fun r7 σ8 => g_X12_later_h42 F F x y z 0 0 σ8)) else (g_X12_later_b28 F σ1)))) = X → g_X12_later F x y z σ1 = X := by
    intro σ1 X f1 u hX
    unfold g_X12_later
    refine e_mob (zr_isBox hx u.1 h11) (Eq.trans ?_ hX)
    by_cases c : mw (mb (0 ≤ x ∧ x < σ p 11)) = 0
    · exact (if_pos c).trans (if_pos c).symm
    · refine e_f c (e_mob (zr_ahead hy (by rw [u.2.2.2.2]; exact hst.2) (by decide) (by decide)) ?_)
      rw [u.2.2.2.2]
      refine Eq.trans ?_ (if_neg c).symm
      by_cases c2 : mw (mb (0 ≤ y ∧ y ≤ 80 ∧ σ 20 4 ≤ 999 - y)) = 0
      · exact (if_pos c2).trans (if_pos c2).symm
      · refine e_f c2 (e_mob (zr_isi (by omega)) ?_)
        exact (if_neg c2).symm
  have f0 : FC σ σ := fun _ _ => rfl
  by_cases c : (0 ≤ x ∧ x < σ p 11) ∧ (0 ≤ y ∧ y ≤ 80 ∧ σ 20 4 ≤ 999 - y) ∧ 0 ≤ z ∧ z ≤ 4
  · obtain ⟨c1, c2, c3⟩ := c
    obtain ⟨b, eb⟩ : ∃ b : Nat, x = (b : Int) := ⟨x.toNat, by omega⟩
    subst eb
    obtain ⟨k, ek⟩ : ∃ k : Nat, y = (k : Int) := ⟨y.toNat, by omega⟩
    subst ek
    have hb : b < n := by omega
    obtain ⟨υ, s1, s2, -⟩ := zc_start (F := F) (p := p) (n := n) (o := 29) (σ := σ) (π := σ) (delay := 0) (Or.inl rfl) q.1.1 hp h3 rfl rfl
    have s3 : CR σ p n (σ 20 5) (σ 20 4) 0 (cB σ 21) 0 29 (mup υ 30 (10 * b + 9) 0) σ := by
      obtain ⟨v1, v2, v3, v4, v5⟩ := s2
      refine ⟨fun q hq => by rw [mup_off (by omega)]; exact v1 q hq, fun j hj g hg => ?_, by rw [mup_off (by decide)]; exact v3, by rw [mup_off (by decide)]; exact v4, by rw [mup_off (by decide)]; exact v5⟩
      rw [← v2 j hj g hg]
      exact mup_ne (by omega)
    obtain ⟨w, σ1, t1, t2, t3⟩ := j_later (F := F) (b := b) (k := k) (what := z) hF q PEq.rfl' hb (by omega) c3 k 0 F (mup υ 30 (10 * b + 9) 0) 0 (by omega) (by omega) (by decide) s3 (mup_at rfl rfl)
    obtain ⟨u, us, uf⟩ := hq σ1 t2
    obtain ⟨τ, v1, v2⟩ := us F hF
    obtain ⟨τ', w1, w2⟩ := t3 σ1 τ u v2
    rw [mb_t c1, mb_t c2, mw_id (z := z) (by omega) (by omega)] at ec
    have er := er σ1 (some (w, τ')) t2 u
    rw [mb_t c1, mb_t c2, mb_t c3] at er
    refine ⟨w, σ1, τ', p, s, ec _ (e_f (by decide) (e_f (by decide) (e_f (by omega) (e_t (by rw [mw_id (by decide) (by decide)]; omega) ?_)))), er (e_f (by decide) (e_f (by decide) (e_t (by decide) (e_mob v1 w1)))), uf τ' w2⟩
    refine e_mob ?_ rfl
    unfold g_X0_stateBehind
    exact e_mob s1 (e_mob (zs_9 (by omega)) t1)
  · refine ⟨-1, σ, σ, p, s, ec _ ?_, er σ _ f0 (hq σ f0).1 ?_, sm⟩
    · by_cases c1 : 0 ≤ x ∧ x < σ p 11
      · rw [mb_t c1]
        refine e_f (by decide) ?_
        by_cases c2 : 0 ≤ y ∧ y ≤ 80 ∧ σ 20 4 ≤ 999 - y
        · rw [mb_t c2, mw_id (z := z) (by omega) (by omega)]
          refine e_f (by decide) ?_
          by_cases c3 : z < 0
          · exact e_t c3 rfl
          · exact e_f c3 (e_f (by rw [mw_id (by decide) (by decide)]; omega) rfl)
        · rw [mb_f c2]
          exact e_t (by decide) rfl
      · rw [mb_f c1]
        exact e_t (by decide) rfl
    · by_cases c1 : 0 ≤ x ∧ x < σ p 11
      · rw [mb_t c1]
        refine e_f (by decide) ?_
        by_cases c2 : 0 ≤ y ∧ y ≤ 80 ∧ σ 20 4 ≤ 999 - y
        · rw [mb_t c2, mb_f (fun c3 => c ⟨c1, c2, c3⟩)]
          exact e_f (by decide) (e_f (by decide) rfl)
        · rw [mb_f c2]
          exact e_t (by decide) rfl
      · rw [mb_f c1]
        exact e_t (by decide) rfl
