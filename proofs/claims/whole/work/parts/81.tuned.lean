/-! LAYER 2: tuned -/
/-- box b with other eyes -/
def xEy (A : Nat → Nat → Int) (b : Nat) (a h : Int) (j f : Nat) : Int := if j = b then (if f = 5 then a else if f = 6 then h else A j f) else A j f
theorem xEy_BR {C R : Int} {A : Nat → Nat → Int} {b n : Nat} {a h : Int} (ha : 0 ≤ a ∧ a ≤ 2) (hh : 0 ≤ h ∧ h ≤ 3) (hA : ∀ j, j < n → BR C R (A j)) : ∀ j, j < n → BR C R (xEy A b a h j) := by
  intro j hj
  obtain ⟨b0, b2, b3, b4, b5, b6, b7, b8⟩ := hA j hj
  by_cases e : j = b
  · subst e
    unfold BR xEy
    simp only [if_true, Nat.reduceEqDiff, if_false]
    exact ⟨b0, b2, b3, b4, ha, hh, b7, b8⟩
  · unfold BR xEy
    simp only [if_neg e]
    exact ⟨b0, b2, b3, b4, b5, b6, b7, b8⟩
theorem Rel.g57 {σ σ1 τ : mMem} {p s n b : Nat} {N a h : Int} (r : Rel σ p s N) (hn : σ p 11 = (n : Int)) (f : FC σ1 σ) (g : TryG τ σ1) (h57 : τ 86 57 = (b : Int)) (h58 : τ 86 58 = a) (h59 : τ 86 59 = h) (h60 : τ 86 60 = -1) : ∀ j, j < n → BEq (xEy (cB σ 21) b a h j) (rB τ 0 j) := by
  obtain ⟨n', n6, n11, h3, hE, hA, hA2, hc, hK⟩ := r.tries
  have en : n' = n := by omega
  subst en
  obtain ⟨hp, h08, h08n, h20, h20n, hP, hR, h11, h9, h10, hB, hst, hla, k57, k60, k62⟩ := r.now
  have g13 : τ 86 13 = σ 86 13 := by rw [g.2.2.1 13 (by decide), f 86 (by decide)]
  have gq : ∀ q, q < 110 → q ≠ 86 → ¬ (29 ≤ q ∧ q ≤ 34) → τ q = σ q := fun q q1 q2 q3 => by rw [g.1 q q1 q2, f q q3]
  have g12 : ∀ q, 112 ≤ q → q ≤ 116 → ∀ j, j < 6 → τ q j = σ q j := fun q q1 q2 j hj => by rw [g.2.2.2.2.1 q q1 q2 j (by omega), f q (by omega)]
  intro j hj i hi
  have E := hE j hj i hi
  have j1 : ¬ (j : Int) = -1 := by omega
  have e0 : 6 * 0 + j = j := by omega
  unfold rB at E ⊢
  rw [e0] at E ⊢
  rw [g12 112 (by decide) (by decide) j (by omega), g12 113 (by decide) (by decide) j (by omega), g12 114 (by decide) (by decide) j (by omega), g12 115 (by decide) (by decide) j (by omega), g12 116 (by decide) (by decide) j (by omega), g13, gq 94 (by decide) (by decide) (by decide), gq 95 (by decide) (by decide) (by decide), gq 96 (by decide) (by decide) (by decide), h57, h58, h59, h60]
  rw [k57, k60, if_neg j1, if_neg j1, if_neg j1] at E
  rw [if_neg j1]
  unfold xEy
  by_cases e : j = b
  · subst e
    rw [if_pos rfl, if_pos rfl, if_pos rfl]
    by_cases i5 : i = 5
    · subst i5; rfl
    · by_cases i6 : i = 6
      · subst i6; rfl
      · rw [if_neg i5, if_neg i6, E]
        simp only [if_neg i5, if_neg i6]
  · have ez : ¬ (j : Int) = (b : Int) := by omega
    rw [if_neg e, if_neg ez, if_neg ez]
    exact E
/-- a box stands on black -/
def xBl (π : mMem) (p : Nat) (lamp : Int) (B : Nat → Int) : Int := mb (5 ≤ sGrey (π p 9) (π p 10) (π (p + 1)) (B 0) (B 1) - lamp)
theorem zc_onBlack {F p b : Nat} {π σ : mMem} {lamp : Int} {B : Nat → Int} (hb : b < 6) (hp : p = 3 ∨ p = 8) (h3 : σ 29 3 = (p : Int)) (h5 : σ 29 5 = lamp) (hl : 0 ≤ lamp ∧ lamp ≤ 9) (hπ : PEq σ π p) (hP : PlC π p) (hB : BEq (cB σ (29 + 1) b) B) (hr : (0 ≤ B 0 ∧ B 0 < 9) ∧ 0 ≤ B 1 ∧ B 1 < 9) : g_X10_onBlack F 29 (b : Int) σ = some (xBl π p lamp B, σ) := by
  have p0 : σ (29 + 1) (10 * b + 0) = B 0 := hB 0 (by decide)
  have p1 : σ (29 + 1) (10 * b + 1) = B 1 := hB 1 (by decide)
  unfold g_X10_onBlack
  refine e_mob (zo_0 hb) (e_mob (zo_1 hb) ?_)
  rw [p0, p1]
  refine e_mob (zc_isBlack (p := p) (by omega) (by omega) (hP.same hπ.1 hπ.2.1 hπ.2.2) (by omega) (by omega) (by omega)) ?_
  rw [hπ.1, hπ.2.1, h5]
  exact e_t (mb_or _) rfl
theorem zr_onBlack {F p b : Nat} {π τ : mMem} {lamp : Int} {B : Nat → Int} (hR : PlR π p τ) (hP : PlC π p) (h1 : τ 111 1 = lamp) (hl : 0 ≤ lamp ∧ lamp ≤ 9) (hB : BEq (rB τ 1 b) B) (hr : BR (π p 9) (π p 10) B) (hc : 0 ≤ τ 112 (6 + b) ∧ τ 112 (6 + b) ≤ 80) : g_X12_isBlack F 1 (τ 112 (6 + b)) τ = some (xBl π p lamp B, τ) := by
  have b0 := hB 0 (by decide)
  have b1 := hB 1 (by decide)
  rw [rB_0, show 6 * 1 + b = 6 + b by omega] at b0
  rw [rB_1, show 6 * 1 + b = 6 + b by omega] at b1
  have z := zr_isBlack (F := F) (p := p) (v := 1) (π := π) (τ := τ) (c := B 0) (r := B 1) (lamp := lamp) (by decide) hR hP h1 hl
  have hr1 := hr.1
  rw [if_pos (by unfold sOn; omega)] at z
  rw [show 9 * B 1 + B 0 = τ 112 (6 + b) by omega] at z
  exact z
theorem j_bs {F p n b k : Nat} {π σ0 : mMem} {lamp step : Int} {A : Nat → Nat → Int} (hF : 2000 ≤ F) (q : QC π p n lamp step 0 A) (hσ : PEq σ0 π p) (hb : b < n) (hk : step + k ≤ 999 ∧ k ≤ 80) : ∀ (d m fuel : Nat) (υ : mMem) (acc : Int), d + m = k → d < fuel → 0 ≤ acc ∧ acc ≤ m → CR π p n lamp step 0 A m 29 υ σ0 → ∃ (v : Int) (σ' : mMem), (0 ≤ v ∧ v ≤ k) ∧ g_X0_blackSteps_h5 F fuel (b : Int) (k : Int) acc (m : Int) υ = some (v, σ') ∧ FC σ' σ0 ∧ ∀ τ0 τ, QR π p step 0 τ0 → LR π p n lamp step 0 A m τ τ0 → ∃ τ', TryF τ' τ0 ∧ ∀ k44 x3 x4 x5 x6, g_X12_tuned_h79 F k44 fuel (b : Int) (k : Int) x3 x4 x5 x6 acc (m : Int) τ = (if mw x5 < mw v then (g_X12_tuned_b143 F k44 (b : Int) (k : Int) x3 x6 v x6 τ') else (g_X12_tuned_b143 F k44 (b : Int) (k : Int) x3 x4 x5 x6 τ')) := by
  have n6 := q.1.1
  have hp := q.1.2
  have hP := q.2.1
  have hl := q.2.2.2.1
  have hs := q.2.2.2.2.1
  intro d
  induction d with
  | zero =>
    intro m fuel υ acc h1 h2 h3 h
    obtain ⟨f, rfl⟩ : ∃ f, fuel = f + 1 := ⟨fuel - 1, by omega⟩
    refine ⟨acc, υ, by omega, ?_, h.1, fun τ0 τ hr hL => ⟨τ, hL.1, fun k44 x3 x4 x5 x6 => ?_⟩⟩
    · unfold g_X0_blackSteps_h5
      exact e_t (by rw [mw_id (by omega) (by omega), mw_id (by omega) (by omega)]; omega) rfl
    · unfold g_X12_tuned_h79
      exact e_t (by rw [mw_id (by omega) (by omega), mw_id (by omega) (by omega)]; omega) rfl
  | succ d ih =>
    intro m fuel υ acc h1 h2 h3 h
    obtain ⟨f, rfl⟩ : ∃ f, fuel = f + 1 := ⟨fuel - 1, by omega⟩
    obtain ⟨υ1, a1, a2, -⟩ := q.c (F := F) (made := 0) hF hσ (by omega) (by decide) (fun _ _ => made0) h
    have R := xIt_BR (lamp := lamp) (step := step) (delay := 0) q.2.2.2.2.2.2 (m + 1) b hb
    have bl : xBl π p lamp (xIt π p n lamp step 0 A (m + 1) b) = 0 ∨ xBl π p lamp (xIt π p n lamp step 0 A (m + 1) b) = 1 := by
      unfold xBl
      have := mb_rng (5 ≤ sGrey (π p 9) (π p 10) (π (p + 1)) (xIt π p n lamp step 0 A (m + 1) b 0) (xIt π p n lamp step 0 A (m + 1) b 1) - lamp)
      omega
    have pe : PEq υ1 π p := ⟨(a2.1 p (by omega)).trans hσ.1, (a2.1 (p + 1) (by omega)).trans hσ.2.1, (a2.1 (p + 4) (by omega)).trans hσ.2.2⟩
    have ob := zc_onBlack (F := F) (p := p) (b := b) (π := π) (σ := υ1) (lamp := lamp) (B := xIt π p n lamp step 0 A (m + 1) b) (by omega) hp a2.2.2.1 a2.2.2.2.2 hl pe hP (a2.2.1 b hb) (R.c9 hP.1.2 hP.2.1.2)
    obtain ⟨v, σ', o1, o2, o3, o4⟩ := ih (m + 1) f υ1 (acc + xBl π p lamp (xIt π p n lamp step 0 A (m + 1) b)) (by omega) (by omega) (by omega) a2
    refine ⟨v, σ', o1, ?_, o3, fun τ0 τ hr hL => ?_⟩
    · rw [← o2]
      conv => lhs; unfold g_X0_blackSteps_h5
      refine e_f (by rw [mw_id (by omega) (by omega), mw_id (by omega) (by omega)]; omega) (e_mob a1 (e_mob ob ?_))
      unfold g_X0_blackSteps_b37
      rw [show ((m + 1 : Nat) : Int) = (m : Int) + 1 by omega]
      rcases bl with e | e <;> rw [e]
      · exact e_t (by decide) rfl
      · exact e_f (by decide) rfl
    · obtain ⟨τ1, b1, b2, -⟩ := q.r (F := F) hF hr (by omega) hL
      obtain ⟨τ', u1, u2⟩ := o4 τ0 τ1 hr b2
      refine ⟨τ', u1, fun k44 x3 x4 x5 x6 => ?_⟩
      have R1 : PlR π p τ1 := hr.1.same (fun q q1 q2 => b2.1.1 q (by omega) (by omega)) (b2.1.2.2.1 13 (by decide) (by decide))
      have or := zr_onBlack (F := F) (p := p) (b := b) (π := π) (τ := τ1) (lamp := lamp) (B := xIt π p n lamp step 0 A (m + 1) b) R1 hP b2.2.2.2.1 hl (b2.2.1 b hb).1 R (b2.2.1 b hb).2
      rw [← u2 k44 x3 x4 x5 x6]
      conv => lhs; unfold g_X12_tuned_h79
      refine e_f (by rw [mw_id (by omega) (by omega), mw_id (by omega) (by omega)]; omega) (e_mob b1 ?_)
      rw [mw_id (z := 6 + (b : Int)) (by omega) (by omega), show (6 + (b : Int)).toNat = 6 + b by omega]
      refine e_t (by omega) (e_mob or ?_)
      unfold g_X12_tuned_b116
      rw [show ((m + 1 : Nat) : Int) = (m : Int) + 1 by omega]
      rcases bl with e | e <;> rw [e]
      · exact e_t (by decide) rfl
      · exact e_f (by decide) rfl
