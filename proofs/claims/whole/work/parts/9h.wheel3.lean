/-! LAYER 2: wheel, which walks fit -/
/-- the rows that were told, as the class has them -/
def Tol (σ : mMem) (T : Nat) (tm pl : Nat → Int) : Prop := σ 35 3 = (T : Int) ∧ T ≤ 16 ∧ ∀ k, k < T → (σ 36 (3 * k) = tm k ∧ 0 ≤ tm k ∧ tm k ≤ 40) ∧ 9 * σ 36 (3 * k + 2) + σ 36 (3 * k + 1) = pl k ∧ (0 ≤ pl k ∧ pl k ≤ 100)
theorem zc_fits {F T w : Nat} {σ : mMem} {P : Nat → Nat → Int} {tm pl : Nat → Int} (hw : w < 10) (hT : Tol σ T tm pl) (hP : ∀ j, j ≤ 40 → σ (38 + w) j = P w j ∧ -1 ≤ P w j ∧ P w j ≤ 100) : ∀ (d k fuel : Nat), d + k = T → d + 1 < fuel → (∀ j, j < k → P w (tm j).toNat = pl j) → g_X9_fitsRows_h18 F fuel (w : Int) 1 (k : Int) σ = some (mb (∀ j, j < T → P w (tm j).toNat = pl j), σ) := by
  obtain ⟨T1, T2, T3⟩ := hT
  intro d
  induction d with
  | zero =>
    intro k fuel e1 e2 e3
    obtain ⟨f, rfl⟩ : ∃ f, fuel = f + 1 := ⟨fuel - 1, by omega⟩
    have ek : k = T := by omega
    subst ek
    rw [mb_t e3]
    unfold g_X9_fitsRows_h18 g_X9_fitsRows_b110
    rw [T1]
    exact e_f (by decide) (e_t (Int.le_refl _) (e_t (by decide) rfl))
  | succ d ih =>
    intro k fuel e1 e2 e3
    obtain ⟨f, rfl⟩ : ∃ f, fuel = f + 1 := ⟨fuel - 1, by omega⟩
    obtain ⟨f', hf'⟩ : ∃ f', f = f' + 1 := ⟨f - 1, by omega⟩
    obtain ⟨⟨a1, a2, a3⟩, a4, a5, a6⟩ := T3 k (by omega)
    obtain ⟨t, ht⟩ : ∃ t : Nat, tm k = (t : Int) := ⟨(tm k).toNat, by omega⟩
    have hp := hP t (by omega)
    have head : ∀ X, (if ¬ P w t = pl k then (g_X9_fitsRows_h18 F f (w : Int) 0 ((k : Int) + 1) σ) else (g_X9_fitsRows_h18 F f (w : Int) 1 ((k : Int) + 1) σ)) = X → g_X9_fitsRows_h18 F (f + 1) (w : Int) 1 (k : Int) σ = X := by
      intro X hX
      unfold g_X9_fitsRows_h18 g_X9_fitsRows_b102 g_X9_fitsRows_b103
      rw [T1, show 3 * (k : Int) = ((3 * k : Nat) : Int) by omega, show ((3 * k : Nat) : Int) + 1 = ((3 * k + 1 : Nat) : Int) by omega, show ((3 * k : Nat) : Int) + 2 = ((3 * k + 2 : Nat) : Int) by omega, mwN (i := 3 * k) (by omega), mwN (i := 3 * k + 1) (by omega), mwN (i := 3 * k + 2) (by omega), a1, ht, show σ 36 (3 * k + 2) * 9 + σ 36 (3 * k + 1) = pl k by omega]
      refine e_f (by decide) (e_f (by rw [mw_id (by omega) (by omega), mw_id (by omega) (by omega)]; omega) (e_f (by rw [mw_id (by omega) (by omega), mw_id (by omega) (by omega)]; omega) (e_t (mwR (by omega) (by decide)) (e_let (e_t (mwR (by omega) (by decide)) (e_t (mwR (by omega) (by decide)) (e_let ?_)))))))
      rw [mwN (i := w) (by omega), mwN (i := t) (by omega), show 37 + 1 + w = 38 + w by omega, hp.1, mw_id (z := P w t) (by omega) (by omega), mw_id (z := pl k) (by omega) (by omega)]
      exact e_f (by rw [mw_id (by omega) (by omega)]; omega) (e_f (by rw [mw_id (by omega) (by omega), mw_id (by omega) (by omega)]; omega) (e_t (mwR (by omega) (by decide)) (e_t (mwR (by omega) (by decide)) hX)))
    by_cases c : P w t = pl k
    · refine head _ ((if_neg (fun e => e c)).trans ?_)
      rw [← ih (k + 1) f (by omega) (by omega) (fun j hj => by
        by_cases cj : j = k
        · rw [cj, ht, Int.toNat_natCast]; exact c
        · exact e3 j (by omega)), show ((k + 1 : Nat) : Int) = (k : Int) + 1 by omega]
    · refine head _ ((if_pos c).trans ?_)
      rw [mb_f (fun e => c (by have := e k (by omega); rw [ht, Int.toNat_natCast] at this; exact this)), hf']
      unfold g_X9_fitsRows_h18 g_X9_fitsRows_b110
      exact e_t (by decide) (e_t (by decide) rfl)
theorem zr_fits {F T w : Nat} {τ : mMem} {P : Nat → Nat → Int} {tm pl : Nat → Int} (hw : w < 10) (h66 : τ 86 66 = (T : Int)) (hT : T ≤ 16) (h3 : ∀ k, k < T → (τ 122 k = tm k ∧ 0 ≤ tm k ∧ tm k ≤ 40) ∧ τ 123 k = pl k ∧ 0 ≤ pl k ∧ pl k ≤ 100) (hP : ∀ j, j ≤ 40 → τ 124 (41 * w + j) = P w j ∧ -1 ≤ P w j ∧ P w j ≤ 100) : ∀ (d k fuel : Nat), d + k = T → d < fuel → (∀ j, j < k → P w (tm j).toNat = pl j) → g_X12_isTrack_h2 F fuel (w : Int) (k : Int) τ = some (mb (∀ j, j < T → P w (tm j).toNat = pl j), τ) := by
  intro d
  induction d with
  | zero =>
    intro k fuel e1 e2 e3
    obtain ⟨f, rfl⟩ : ∃ f, fuel = f + 1 := ⟨fuel - 1, by omega⟩
    have ek : k = T := by omega
    subst ek
    rw [mb_t e3]
    unfold g_X12_isTrack_h2
    rw [h66]
    exact e_t (Int.le_refl _) (e_t (by decide) rfl)
  | succ d ih =>
    intro k fuel e1 e2 e3
    obtain ⟨f, rfl⟩ : ∃ f, fuel = f + 1 := ⟨fuel - 1, by omega⟩
    obtain ⟨⟨a1, a2, a3⟩, a4, a5, a6⟩ := h3 k (by omega)
    obtain ⟨t, ht⟩ : ∃ t : Nat, tm k = (t : Int) := ⟨(tm k).toNat, by omega⟩
    have hp := hP t (by omega)
    have head : ∀ X, (if P w t = pl k then (g_X12_isTrack_h2 F f (w : Int) ((k : Int) + 1) τ) else (some (0, τ))) = X → g_X12_isTrack_h2 F (f + 1) (w : Int) (k : Int) τ = X := by
      intro X hX
      unfold g_X12_isTrack_h2
      rw [h66, mwN (i := k) (by omega), a1, ht, show 41 * (w : Int) + (t : Int) = ((41 * w + t : Nat) : Int) by omega, mwN (i := 41 * w + t) (by omega), hp.1, a4, mw_id (z := P w t) (by omega) (by omega), mw_id (z := pl k) (by omega) (by omega)]
      refine e_f (by rw [mw_id (by omega) (by omega), mw_id (by omega) (by omega)]; omega) (e_t (mwR (by omega) (by decide)) (e_t (mwR (by omega) (by decide)) (e_t (mwR (by omega) (by decide)) ?_)))
      by_cases c : P w t = pl k
      · rw [if_pos c] at hX
        exact e_t c hX
      · rw [if_neg c] at hX
        exact e_f c (e_t (by decide) hX)
    by_cases c : P w t = pl k
    · refine head _ ((if_pos c).trans ?_)
      rw [← ih (k + 1) f (by omega) (by omega) (fun j hj => by
        by_cases cj : j = k
        · rw [cj, ht, Int.toNat_natCast]; exact c
        · exact e3 j (by omega)), show ((k + 1 : Nat) : Int) = (k : Int) + 1 by omega]
    · refine head _ ((if_neg c).trans ?_)
      rw [mb_f (fun e => c (by have := e k (by omega); rw [ht, Int.toNat_natCast] at this; exact this))]
/-- the walks that are left, as bits -/
def xLf (P : Nat → Nat → Int) (T : Nat) (tm pl : Nat → Int) : Nat → Int
  | 0 => 0
  | w + 1 => mor (xLf P T tm pl w) (if ∀ j, j < T → P w (tm j).toNat = pl j then mshl 1 (w : Int) else 0)
theorem zc_left {F T : Nat} {σ : mMem} {P : Nat → Nat → Int} {tm pl : Nat → Int} (hF : 2000 ≤ F) (hT : Tol σ T tm pl) (hP : ∀ w, w < 10 → ∀ j, j ≤ 40 → σ (38 + w) j = P w j ∧ -1 ≤ P w j ∧ P w j ≤ 100) : g_X9_bitsLeft F σ = some (xLf P T tm pl 10, σ) := by
  have t16 := hT.2.1
  have key : ∀ (d w fuel : Nat), d + w = 10 → d < fuel → g_X9_bitsLeft_h4 F fuel (xLf P T tm pl w) (w : Int) σ = some (xLf P T tm pl 10, σ) := by
    intro d
    induction d with
    | zero =>
      intro w fuel e1 e2
      obtain ⟨f, rfl⟩ : ∃ f, fuel = f + 1 := ⟨fuel - 1, by omega⟩
      have : w = 10 := by omega
      subst this
      unfold g_X9_bitsLeft_h4
      exact e_t (by decide) rfl
    | succ d ih =>
      intro w fuel e1 e2
      obtain ⟨f, rfl⟩ : ∃ f, fuel = f + 1 := ⟨fuel - 1, by omega⟩
      have ft : g_X9_fitsRows F (w : Int) σ = some (mb (∀ j, j < T → P w (tm j).toNat = pl j), σ) := by
        unfold g_X9_fitsRows g_X9_fitsRows_b15
        exact e_f (by rw [mw_id (by omega) (by omega)]; omega) (e_f (by rw [mw_id (by omega) (by omega), mw_id (by omega) (by omega)]; omega) (zc_fits (by omega) hT (hP w (by omega)) T 0 F (by omega) (by omega) (fun j hj => absurd hj (by omega))))
      rw [← ih (w + 1) f (by omega) (by omega)]
      conv => lhs; unfold g_X9_bitsLeft_h4 g_X9_bitsLeft_b26
      refine e_f (by rw [mw_id (by omega) (by omega), mw_id (by omega) (by omega)]; omega) (e_mob ft ?_)
      rw [show ((w + 1 : Nat) : Int) = (w : Int) + 1 by omega]
      show _ = g_X9_bitsLeft_h4 F f (mor (xLf P T tm pl w) (if ∀ j, j < T → P w (tm j).toNat = pl j then mshl 1 (w : Int) else 0)) ((w : Int) + 1) σ
      by_cases c : ∀ j, j < T → P w (tm j).toNat = pl j
      · rw [mb_t c, if_pos c]
        exact e_f (by decide) (e_let rfl)
      · rw [mb_f c, if_neg c]
        exact e_t (by decide) (e_let rfl)
  unfold g_X9_bitsLeft
  exact key 10 0 F (by omega) (by omega)
