/-! LAYER 2: wheel, the reference walks -/
def TryH (τ τ0 : mMem) : Prop := (∀ q, q < 110 → q ≠ 86 → τ q = τ0 q) ∧ (∀ q, 120 < q → q ≠ 124 → τ q = τ0 q) ∧ (∀ j, (j < 57 ∨ 64 < j) → τ 86 j = τ0 86 j) ∧ (∀ q, (q = 110 ∨ q = 111 ∨ q = 117) → ∀ j, j ≠ 1 → τ q j = τ0 q j) ∧ (∀ q, 112 ≤ q → q ≤ 116 → ∀ j, (j < 6 ∨ 12 ≤ j) → τ q j = τ0 q j) ∧ ∀ j, (j < 240 ∨ 480 ≤ j) → τ 118 j = τ0 118 j
theorem TryF.h {τ τ0 : mMem} (h : TryF τ τ0) : TryH τ τ0 := ⟨h.1, fun q hq _ => h.2.1 q hq, fun j hj => h.2.2.1 j (by omega) (by omega), h.2.2.2⟩
theorem TryH.tr {a b c : mMem} (h : TryH a b) (g : TryH b c) : TryH a c :=
  ⟨fun q h1 h2 => (h.1 q h1 h2).trans (g.1 q h1 h2), fun q h1 h2 => (h.2.1 q h1 h2).trans (g.2.1 q h1 h2), fun j hj => (h.2.2.1 j hj).trans (g.2.2.1 j hj), fun q hq j hj => (h.2.2.2.1 q hq j hj).trans (g.2.2.2.1 q hq j hj), fun q h1 h2 j hj => (h.2.2.2.2.1 q h1 h2 j hj).trans (g.2.2.2.2.1 q h1 h2 j hj), fun j hj => (h.2.2.2.2.2 j hj).trans (g.2.2.2.2.2 j hj)⟩
theorem TryH.rfl' {a : mMem} : TryH a a := ⟨fun _ _ _ => rfl, fun _ _ _ => rfl, fun _ _ => rfl, fun _ _ _ _ => rfl, fun _ _ _ _ _ => rfl, fun _ _ => rfl⟩
theorem TryH.up {τ τ0 : mMem} {j : Nat} {z : Int} (h : TryH τ τ0) (hj : 57 ≤ j ∧ j ≤ 64) : TryH (mup τ 86 j z) τ0 :=
  ⟨fun q h1 h2 => by rw [mup_off h2]; exact h.1 q h1 h2, fun q h1 h2 => by rw [mup_off (by omega)]; exact h.2.1 q h1 h2, fun i hi => by rw [mup_ne (by omega)]; exact h.2.2.1 i hi, fun q hq i hi => by rw [mup_off (by omega)]; exact h.2.2.2.1 q hq i hi, fun q h1 h2 i hi => by rw [mup_off (by omega)]; exact h.2.2.2.2.1 q h1 h2 i hi, fun i hi => by rw [mup_off (by omega)]; exact h.2.2.2.2.2 i hi⟩
theorem TryH.w {τ τ0 : mMem} {j : Nat} {z : Int} (h : TryH τ τ0) : TryH (mup τ 124 j z) τ0 :=
  ⟨fun q h1 h2 => by rw [mup_off (by omega)]; exact h.1 q h1 h2, fun q h1 h2 => by rw [mup_off h2]; exact h.2.1 q h1 h2, fun i hi => by rw [mup_off (by decide)]; exact h.2.2.1 i hi, fun q hq i hi => by rw [mup_off (by omega)]; exact h.2.2.2.1 q hq i hi, fun q h1 h2 i hi => by rw [mup_off (by omega)]; exact h.2.2.2.2.1 q h1 h2 i hi, fun i hi => by rw [mup_off (by decide)]; exact h.2.2.2.2.2 i hi⟩
/-- with row 124 as it was -/
theorem TryH.g {τ τ0 : mMem} (h : TryH τ τ0) : TryG (mupo τ 124 (τ0 124)) τ0 := by
  have off : ∀ q, q ≠ 124 → mupo τ 124 (τ0 124) q = τ q := fun q hq => funext fun j => mupo_ne hq
  refine ⟨fun q h1 h2 => by rw [off q (by omega)]; exact h.1 q h1 h2, fun q h1 => ?_, fun i hi => by rw [off 86 (by decide)]; exact h.2.2.1 i hi, fun q hq i hi => by rw [off q (by omega)]; exact h.2.2.2.1 q hq i hi, fun q h1 h2 i hi => by rw [off q (by omega)]; exact h.2.2.2.2.1 q h1 h2 i hi, fun i hi => by rw [off 118 (by decide)]; exact h.2.2.2.2.2 i hi⟩
  by_cases c : q = 124
  · rw [c, mupo_at rfl]
  · rw [off q c]; exact h.2.1 q h1 c
theorem Rel.h {σ τ : mMem} {p s n : Nat} {N : Int} (r : Rel σ p s N) (hn : σ p 11 = (n : Int)) (g : TryH τ σ) : PlR σ p τ ∧ τ 110 0 = σ 20 4 ∧ τ 111 0 = σ 20 5 ∧ KRel τ 0 (σ 54 2) (σ 76) ∧ (∀ j, j < n → 0 ≤ τ 112 j ∧ τ 112 j ≤ 80) ∧ (∀ b : Nat, b < n → τ 86 57 = -1 → τ 86 60 = (b : Int) → ∀ j, j < n → BEq (xWh (cB σ 21) b (τ 86 61) j) (rB τ 0 j)) ∧ (τ 86 57 = -1 → τ 86 60 = -1 → τ 86 62 = 0 → Rel τ p s (N + 1)) := by
  have off : ∀ q, q ≠ 124 → mupo τ 124 (σ 124) q = τ q := fun q hq => funext fun j => mupo_ne hq
  obtain ⟨a1, a2, a3, a4, a5, -, a7⟩ := r.g hn (fun _ _ => rfl) g.g
  obtain ⟨n', n6, n11, h3, hE, hA, hA2, hc, hK⟩ := r.tries
  have en : n' = n := by omega
  subst en
  obtain ⟨hp, h08, h08n, h20, h20n, hP, hR, h11, h9, h10, hB, hst, hla, k57, k60, k62⟩ := r.now
  rw [off 110 (by decide)] at a2
  rw [off 111 (by decide)] at a3
  rw [off 86 (by decide)] at a7
  refine ⟨a1.same (fun q q1 q2 => (off q (by omega)).symm) (by rw [off 86 (by decide)]), a2, a3, a4.congr (by rw [off 117 (by decide)]) (fun _ _ _ => by rw [off 118 (by decide)]), fun j hj => ?_, fun b hb e57 e60 j hj i hi => ?_, fun e57 e60 e62 => ?_⟩
  · have := (a5 j hj).2
    rw [off 112 (by decide)] at this
    exact this
  · have E := hE j hj i hi
    have j1 : ¬ (j : Int) = -1 := by omega
    have e0 : 6 * 0 + j = j := by omega
    have g13 : τ 86 13 = σ 86 13 := g.2.2.1 13 (by decide)
    have g12 : ∀ q, 112 ≤ q → q ≤ 116 → τ q j = σ q j := fun q q1 q2 => g.2.2.2.2.1 q q1 q2 j (by omega)
    unfold rB at E ⊢
    rw [e0] at E ⊢
    rw [g12 112 (by decide) (by decide), g12 113 (by decide) (by decide), g12 114 (by decide) (by decide), g12 115 (by decide) (by decide), g12 116 (by decide) (by decide), g13, g.1 94 (by decide) (by decide), g.1 95 (by decide) (by decide), g.1 96 (by decide) (by decide), e57, e60, if_neg j1, if_neg j1]
    rw [k57, k60, if_neg j1, if_neg j1, if_neg j1] at E
    unfold xWh
    by_cases c : j = b ∧ i = 7
    · rw [if_pos c, c.2, c.1, if_pos rfl, if_pos rfl]
      rfl
    · rw [if_neg c, E]
      by_cases ci : i = 7
      · have jb : ¬ (j : Int) = (b : Int) := fun e => c ⟨by omega, ci⟩
        rw [if_neg jb]
      · simp only [if_neg ci]
  · have r1 := a7 e57 e60 e62
    exact r1.same (by omega) (fun q j hq => by rw [off q (by omega)]) (fun q j hq => by rw [off q (by omega)])
theorem LR.self {p n m : Nat} {π τ τ0 : mMem} {lamp step delay : Int} {A : Nat → Nat → Int} (h : LR π p n lamp step delay A m τ τ0) : LR π p n lamp step delay A m τ τ := ⟨⟨fun _ _ _ => rfl, fun _ _ => rfl, fun _ _ _ => rfl, fun _ _ _ _ => rfl, fun _ _ _ _ _ => rfl, fun _ _ => rfl⟩, h.2⟩
theorem LR.w {p n m i : Nat} {π τ : mMem} {lamp step delay z : Int} {A : Nat → Nat → Int} (h : LR π p n lamp step delay A m τ τ) : LR π p n lamp step delay A m (mup τ 124 i z) (mup τ 124 i z) := by
  obtain ⟨-, h1, h2, h3, T, ring, hK⟩ := h
  have eR : ∀ j, rB (mup τ 124 i z) 1 j = rB τ 1 j := fun j => rB_c2 (fun q hq => mup_off (by omega)) (fun i _ _ => by rw [mup_off (by decide)]) 1 j
  refine ⟨⟨fun _ _ _ => rfl, fun _ _ => rfl, fun _ _ _ => rfl, fun _ _ _ _ => rfl, fun _ _ _ _ _ => rfl, fun _ _ => rfl⟩, fun j hj => ?_, by rw [mup_off (by decide)]; exact h2, by rw [mup_off (by decide)]; exact h3, T, ring, hK.congr (by rw [mup_off (by decide)]) (fun j _ _ => by rw [mup_off (by decide)])⟩
  rw [eR, mup_off (by decide)]
  exact h1 j hj
/-- one walk: at i, min i last steps made -/
theorem zr_w18 {F p n b w : Nat} {π : mMem} {lamp step last : Int} {A : Nat → Nat → Int} (hF : 2000 ≤ F) (hw : w < 10) (hb : b < n) (hlast : last = min 40 (999 - step)) (q : QC π p n lamp step 0 (xWh A b (w : Int))) : ∀ (d i fuel m : Nat) (τ : mMem), d + i = 41 → d < fuel → (m : Int) = min (i : Int) last → QR π p step 0 τ → LR π p n lamp step 0 (xWh A b (w : Int)) m τ τ → (∀ j, j < i → τ 124 (41 * w + j) = xP π p n lamp step A b last w j) → ∃ τ', g_X12_walks_h18 F fuel (b : Int) (w : Int) (i : Int) τ = some (0, τ') ∧ TryH τ' τ ∧ (∀ j, ¬ (41 * w ≤ j ∧ j < 41 * w + 41) → τ' 124 j = τ 124 j) ∧ (∀ j, j ≤ 40 → τ' 124 (41 * w + j) = xP π p n lamp step A b last w j) ∧ τ' 86 60 = -1 ∧ ∀ j, j ≠ 60 → j ≠ 63 → j ≠ 64 → τ' 86 j = τ 86 j := by
  have n6 := q.1.1
  have hs := q.2.2.2.2.1
  intro d
  induction d with
  | zero =>
    intro i fuel m τ e1 e2 em hr hL e5
    obtain ⟨f, rfl⟩ : ∃ f, fuel = f + 1 := ⟨fuel - 1, by omega⟩
    refine ⟨mup τ 86 60 (-1), ?_, TryH.rfl'.up (by decide), fun j _ => by rw [mup_off (by decide)], fun j hj => by rw [mup_off (by decide)]; exact e5 j (by omega), mup_at rfl rfl, fun j j1 _ _ => mup_ne (by omega)⟩
    unfold g_X12_walks_h18
    exact e_t (by rw [mw_id (by omega) (by omega), mw_id (by omega) (by omega)]; omega) (e_mem rfl)
  | succ d ih =>
    intro i fuel m τ e1 e2 em hr hL e5
    obtain ⟨f, rfl⟩ : ∃ f, fuel = f + 1 := ⟨fuel - 1, by omega⟩
    obtain ⟨hr1, hr2, hr3, hr4, hr5⟩ := hr
    obtain ⟨V, eV⟩ : ∃ V, V = xP π p n lamp step A b last w i := ⟨_, rfl⟩
    obtain ⟨τ1, et⟩ : ∃ y, y = mup τ 124 (41 * w + i) V := ⟨_, rfl⟩
    have o1 : ∀ q, q ≠ 124 → τ1 q = τ q := fun q hq => by rw [et, mup_off hq]
    have hL1 : LR π p n lamp step 0 (xWh A b (w : Int)) m τ1 τ1 := by rw [et]; exact hL.w
    have hQ1 : QR π p step 0 τ1 := ⟨hr1.same (fun q q1 q2 => o1 q (by omega)) (by rw [o1 86 (by decide)]), by rw [o1 86 (by decide)]; exact hr2, by rw [o1 86 (by decide)]; exact hr3, by rw [o1 86 (by decide)]; exact hr4, by rw [o1 110 (by decide)]; exact hr5⟩
    have head : ∀ X, (mob (g_X12_isAhead F ((i : Int) + 1) 0 40 τ1) (fun r209 σ210 => if mw r209 = 0 then (g_X12_walks_b78 F (g_X12_walks_h18 F f) (b : Int) (w : Int) (i : Int) σ210) else (mob (g_X12_passes F 1 (i : Int) σ210) (fun r211 σ212 => g_X12_walks_b78 F (g_X12_walks_h18 F f) (b : Int) (w : Int) (i : Int) σ212)))) = X → g_X12_walks_h18 F (f + 1) (b : Int) (w : Int) (i : Int) τ = X := by
      intro X hX
      unfold g_X12_walks_h18 g_X12_walks_b58
      refine e_f (by rw [mw_id (by omega) (by omega), mw_id (by omega) (by omega)]; omega) (e_mob (zr_ahead (by omega) (by rw [hr5]; exact hs) (by decide) (by decide)) ?_)
      rw [hr5, show 41 * (w : Int) + (i : Int) = ((41 * w + i : Nat) : Int) by omega, mwN (i := 41 * w + i) (by omega)]
      by_cases c : 0 ≤ (i : Int) ∧ (i : Int) ≤ 40 ∧ step ≤ 999 - (i : Int)
      · have mi : m = i := by omega
        subst mi
        have cb := (hL.2.1 b hb).1
        have c0 := cb 0 (by decide)
        have c1 := cb 1 (by decide)
        rw [rB_0, show 6 * 1 + b = 6 + b by omega] at c0
        rw [rB_1, show 6 * 1 + b = 6 + b by omega] at c1
        have val : τ 112 (6 + b) = V := by
          rw [eV]
          unfold xP
          rw [if_pos (by omega), ← c0, ← c1]
          omega
        rw [mb_t c, mw_id (z := 6 + (b : Int)) (by omega) (by omega), show (6 + (b : Int)).toNat = 6 + b by omega, val, ← et]
        exact e_f (by decide) (e_t (by omega) (e_t (mwR (by omega) (by decide)) (e_mem hX)))
      · have val : (-1 : Int) = V := by
          rw [eV]
          unfold xP
          rw [if_neg (by omega)]
        rw [mb_f c, val, ← et]
        exact e_t (by decide) (e_t (mwR (by omega) (by decide)) (e_mem hX))
    have e5' : ∀ j, j < i + 1 → τ1 124 (41 * w + j) = xP π p n lamp step A b last w j := fun j hj => by
      by_cases c : j = i
      · rw [c, et, mup_at rfl rfl, eV]
      · rw [et, mup_ne (by omega)]; exact e5 j (by omega)
    have fin : ∀ (τ2 : mMem), TryH τ2 τ1 → τ2 124 = τ1 124 → (∀ j, j ≠ 63 → j ≠ 64 → τ2 86 j = τ1 86 j) → (∃ τ', g_X12_walks_h18 F f (b : Int) (w : Int) ((i + 1 : Nat) : Int) τ2 = some (0, τ') ∧ TryH τ' τ2 ∧ (∀ j, ¬ (41 * w ≤ j ∧ j < 41 * w + 41) → τ' 124 j = τ2 124 j) ∧ (∀ j, j ≤ 40 → τ' 124 (41 * w + j) = xP π p n lamp step A b last w j) ∧ τ' 86 60 = -1 ∧ ∀ j, j ≠ 60 → j ≠ 63 → j ≠ 64 → τ' 86 j = τ2 86 j) → (∀ X, g_X12_walks_h18 F f (b : Int) (w : Int) ((i + 1 : Nat) : Int) τ2 = X → g_X12_walks_h18 F (f + 1) (b : Int) (w : Int) (i : Int) τ = X) → ∃ τ', g_X12_walks_h18 F (f + 1) (b : Int) (w : Int) (i : Int) τ = some (0, τ') ∧ TryH τ' τ ∧ (∀ j, ¬ (41 * w ≤ j ∧ j < 41 * w + 41) → τ' 124 j = τ 124 j) ∧ (∀ j, j ≤ 40 → τ' 124 (41 * w + j) = xP π p n lamp step A b last w j) ∧ τ' 86 60 = -1 ∧ ∀ j, j ≠ 60 → j ≠ 63 → j ≠ 64 → τ' 86 j = τ 86 j := by
      intro τ2 g1 g2 g3 ⟨τ', t1, t2, t3, t4, t5, t6⟩ go
      have h1 : TryH τ1 τ := by rw [et]; exact TryH.rfl'.w
      refine ⟨τ', go _ t1, t2.tr (g1.tr h1), fun j hj => ?_, t4, t5, fun j j1 j2 j3 => ?_⟩
      · rw [t3 j hj, g2, et, mup_ne (by omega)]
      · rw [t6 j j1 j2 j3, g3 j j2 j3, o1 86 (by decide)]
    by_cases c : 0 ≤ (i : Int) + 1 ∧ (i : Int) + 1 ≤ 40 ∧ step ≤ 999 - ((i : Int) + 1)
    · have mi : m = i := by omega
      subst mi
      obtain ⟨τ2, b1, b2, -⟩ := q.r (F := F) hF hQ1 (by omega) hL1
      have k := b2.1
      refine fin τ2 k.h (k.2.1 124 (by decide)) (fun j j1 j2 => k.2.2.1 j j1 j2) (ih (m + 1) f (m + 1) τ2 (by omega) (by omega) (by omega) ⟨hQ1.1.same (fun q q1 q2 => k.1 q (by omega) (by omega)) (k.2.2.1 13 (by decide) (by decide)), by rw [k.2.2.1 57 (by decide) (by decide)]; exact hQ1.2.1, by rw [k.2.2.1 60 (by decide) (by decide)]; exact hQ1.2.2.1, by rw [k.2.2.1 62 (by decide) (by decide)]; exact hQ1.2.2.2.1, by rw [k.2.2.2.1 110 (by decide) 0 (by decide)]; exact hQ1.2.2.2.2⟩ b2.self (fun j hj => by rw [k.2.1 124 (by decide)]; exact e5' j hj)) (fun X hX => head X ?_)
      refine e_mob (zr_ahead (by omega) (by rw [hQ1.2.2.2.2]; exact hs) (by decide) (by decide)) ?_
      rw [hQ1.2.2.2.2, mb_t c]
      refine e_f (by decide) (e_mob b1 ?_)
      unfold g_X12_walks_b78
      rw [show (m : Int) + 1 = ((m + 1 : Nat) : Int) by omega]
      exact hX
    · refine fin τ1 TryH.rfl' rfl (fun _ _ _ => rfl) (ih (i + 1) f m τ1 (by omega) (by omega) (by omega) hQ1 hL1 e5') (fun X hX => head X ?_)
      refine e_mob (zr_ahead (by omega) (by rw [hQ1.2.2.2.2]; exact hs) (by decide) (by decide)) ?_
      rw [hQ1.2.2.2.2, mb_f c]
      refine e_t (by decide) ?_
      unfold g_X12_walks_b78
      rw [show (i : Int) + 1 = ((i + 1 : Nat) : Int) by omega]
      exact hX
theorem zr_walks {F p s n b w : Nat} {σ τ : mMem} {N last : Int} (hF : 2000 ≤ F) (r : Rel σ p s N) (q : QC σ p n (σ 20 5) (σ 20 4) 0 (cB σ 21)) (hw : w < 10) (hb : b < n) (hlast : last = min 40 (999 - σ 20 4)) (g : TryH τ σ) (e57 : τ 86 57 = -1) (e62 : τ 86 62 = 0) : ∃ τ', g_X12_walks F (b : Int) (w : Int) τ = some (0, τ') ∧ TryH τ' σ ∧ (∀ j, ¬ (41 * w ≤ j ∧ j < 41 * w + 41) → τ' 124 j = τ 124 j) ∧ (∀ j, j ≤ 40 → τ' 124 (41 * w + j) = xP σ p n (σ 20 5) (σ 20 4) (cB σ 21) b last w j) ∧ τ' 86 60 = -1 ∧ τ' 86 57 = -1 ∧ τ' 86 62 = 0 := by
  have qW : QC σ p n (σ 20 5) (σ 20 4) 0 (xWh (cB σ 21) b (w : Int)) := ⟨q.1, q.2.1, q.2.2.1, q.2.2.2.1, q.2.2.2.2.1, q.2.2.2.2.2.1, xWh_BR (by omega) q.2.2.2.2.2.2⟩
  have n6 := q.1.1
  have hs := q.2.2.2.2.1
  obtain ⟨τ1, e1⟩ : ∃ y, y = mup (mup τ 86 60 (b : Int)) 86 61 (w : Int) := ⟨_, rfl⟩
  have g1 : TryH τ1 σ := by rw [e1]; exact (g.up (by decide)).up (by decide)
  have f57 : τ1 86 57 = -1 := by rw [e1, mup_ne (by decide), mup_ne (by decide)]; exact e57
  have f62 : τ1 86 62 = 0 := by rw [e1, mup_ne (by decide), mup_ne (by decide)]; exact e62
  have f60 : τ1 86 60 = (b : Int) := by rw [e1, mup_ne (by decide), mup_at rfl rfl]
  have f61 : τ1 86 61 = (w : Int) := by rw [e1, mup_at rfl rfl]
  obtain ⟨a1, a2, a3, a4, a5, a6, -⟩ := r.h q.2.2.1 g1
  have a6' := a6 b hb f57 f60
  rw [f61] at a6'
  obtain ⟨τ2, v1, v2⟩ := zr_startA (F := F) (p := p) (n := n) (π := σ) (τ := τ1) (lamp := σ 20 5) (step := σ 20 4) (delay := 0) (A := xWh (cB σ 21) b (w : Int)) hF n6 a2 a3 a4 a5 a6'
  have k := v2.1
  obtain ⟨τ', t1, t2, t3, t4, t5, t6⟩ := zr_w18 (F := F) (p := p) (n := n) (b := b) (w := w) (π := σ) (A := cB σ 21) (last := last) hF hw hb hlast qW 41 0 F 0 τ2 (by omega) (by omega) (by omega) ⟨a1.same (fun q q1 q2 => k.1 q (by omega) (by omega)) (k.2.2.1 13 (by decide) (by decide)), by rw [k.2.2.1 57 (by decide) (by decide), f57]; decide, by rw [k.2.2.1 60 (by decide) (by decide), f60]; omega, by rw [k.2.2.1 62 (by decide) (by decide)]; exact f62, by rw [k.2.2.2.1 110 (by decide) 0 (by decide)]; exact a2⟩ v2.self (fun j hj => absurd hj (by omega))
  refine ⟨τ', ?_, t2.tr (k.h.tr g1), fun j hj => ?_, t4, t5, ?_, ?_⟩
  · unfold g_X12_walks
    refine e_mem (e_mem ?_)
    rw [← e1]
    exact e_mob v1 t1
  · rw [t3 j hj, k.2.1 124 (by decide), e1, mup_off (by decide), mup_off (by decide)]
  · rw [t6 57 (by decide) (by decide) (by decide), k.2.2.1 57 (by decide) (by decide)]; exact f57
  · rw [t6 62 (by decide) (by decide) (by decide), k.2.2.1 62 (by decide) (by decide)]; exact f62
