/-! LAYER 2: numbers and memory -/
theorem mup_at {σ : mMem} {o k q j : Nat} {z : Int} (h1 : q = o) (h2 : j = k) : mup σ o k z q j = z := by
  subst h1; subst h2
  simp [mup, mupo, mup1]
theorem mupo_at {σ : mMem} {o q : Nat} {r : Nat → Int} (h : q = o) : mupo σ o r q = r := by
  subst h
  simp [mupo]
def mb (c : Prop) [Decidable c] : Int := if c then 1 else 0
theorem mb_t {c : Prop} [Decidable c] (h : c) : mb c = 1 := by unfold mb; rw [if_pos h]
theorem mb_f {c : Prop} [Decidable c] (h : ¬ c) : mb c = 0 := by unfold mb; rw [if_neg h]
theorem mb_0 {c : Prop} [Decidable c] : (mb c = 0) = ¬ c := by
  by_cases h : c <;> simp [mb, h]
theorem mb_1 {c : Prop} [Decidable c] : (mb c = 1) = c := by
  by_cases h : c <;> simp [mb, h]
theorem mb_rng (c : Prop) [Decidable c] : 0 ≤ mb c ∧ mb c ≤ 1 := by
  by_cases h : c <;> simp [mb, h]
theorem mw_mb (c : Prop) [Decidable c] : mw (mb c) = mb c := by
  have := mb_rng c
  exact mw_id (by omega) (by omega)
theorem mb_or (c : Prop) [Decidable c] : (mw (mb c) = 0 ∨ mw (mb c) = 1) := by
  rw [mw_mb]
  have := mb_rng c
  omega
theorem mb_ite {c : Prop} [Decidable c] : (if c then (1 : Int) else 0) = mb c := rfl
theorem mb_congr {c d : Prop} [Decidable c] [Decidable d] (h : c ↔ d) : mb c = mb d := by
  by_cases hc : c
  · rw [mb_t hc, mb_t (h.mp hc)]
  · rw [mb_f hc, mb_f (fun q => hc (h.mpr q))]
theorem mand_mask {a m : Int} (k : Nat) (h0 : 0 ≤ a) (h1 : a < 2147483648) (hm : (mI m).toBitVec.toNat = 2 ^ k - 1) (hk : k ≤ 30) : mand a m = a % 2 ^ k := by
  obtain ⟨n, rfl⟩ := Int.eq_ofNat_of_zero_le h0
  have e : mI (n : Int) = nI n := (mI_nat n).symm
  unfold mand
  have hn : n < 2 ^ 31 := by omega
  rw [e, pk_andN (by omega) k hm]
  have h2 : n % 2 ^ k < 2 ^ 31 := Nat.lt_of_le_of_lt (Nat.mod_le _ _) hn
  rw [nI_toInt h2]
  simp
theorem mand3 {a : Int} (h0 : 0 ≤ a) (h1 : a < 2147483648) : mand a 3 = a % 4 := mand_mask 2 h0 h1 (by decide) (by decide)
theorem mand255 {a : Int} (h0 : 0 ≤ a) (h1 : a < 2147483648) : mand a 255 = a % 256 := mand_mask 8 h0 h1 (by decide) (by decide)
theorem mtmod {a b : Int} (h : 0 ≤ a) : a.tmod b = a % b := Int.tmod_eq_emod_of_nonneg h
theorem mtdiv {a b : Int} (h : 0 ≤ a) : a.tdiv b = a / b := Int.tdiv_eq_ediv_of_nonneg h
/-! the floor, in plain words -/
def sdc (w : Int) : Int := if w = 1 then 1 else if w = 3 then -1 else 0
def sdr (w : Int) : Int := if w = 2 then 1 else if w = 0 then -1 else 0
theorem sdc_rng (w : Int) : -1 ≤ sdc w ∧ sdc w ≤ 1 := by unfold sdc; split <;> (try split) <;> omega
theorem sdr_rng (w : Int) : -1 ≤ sdr w ∧ sdr w ≤ 1 := by unfold sdr; split <;> (try split) <;> omega
abbrev sOn (C R c r : Int) : Prop := 0 ≤ c ∧ c < C ∧ 0 ≤ r ∧ r < R
def sGrey (C R : Int) (g : Nat → Int) (c r : Int) : Int := if sOn C R c r then g (r * 9 + c).toNat else 0
def sSeen (C R : Int) (g : Nat → Int) (lamp c r w far aside : Int) : Int := max 0 (sGrey C R g (c + far * sdc w + aside * sdc ((w + 1) % 4)) (r + far * sdr w + aside * sdr ((w + 1) % 4)) - lamp)
/-! the class: reads -/
theorem z_of {F o : Nat} {σ : mMem} {k f : Int} (h : 0 ≤ k ∧ k < 6 ∧ 0 ≤ f ∧ f < 10) : g_X10_of F o k f σ = some (σ (o + 1) (k * 10 + f).toNat, σ) := by
  simp (disch := omega) only [g_X10_of, g_X10_of_b27, g_X10_of_b26, mlet, mw_id, if_pos, if_neg]
theorem z_set {F o : Nat} {σ : mMem} {k f v : Int} (h : 0 ≤ k ∧ k < 6 ∧ 0 ≤ f ∧ f < 10) : g_X10_set F o k f v σ = some (0, mup σ (o + 1) (k * 10 + f).toNat v) := by
  simp (disch := omega) only [g_X10_set, g_X10_set_b28, mlet, mlm, mw_id, if_pos, if_neg]
theorem z_turnBy {F o : Nat} {σ : mMem} {k q : Int} (h : 0 ≤ k ∧ k < 6) : g_X10_turnBy F o k q σ = some (0, mup σ (o + 1) (k * 10 + 2).toNat (mand (σ (o + 1) (k * 10 + 2).toNat + q) 3)) := by
  simp (disch := omega) only [g_X10_turnBy, z_of, mob_eq, z_set]
theorem z_colStep {F : Nat} {σ : mMem} {w : Int} (h : 0 ≤ w ∧ w ≤ 3) : g_X10_columnStep F w σ = some (sdc w, σ) := by
  obtain ⟨h1, h2⟩ := h
  rcases (by omega : w = 0 ∨ w = 1 ∨ w = 2 ∨ w = 3) with rfl | rfl | rfl | rfl <;> rfl
theorem z_rowStep {F : Nat} {σ : mMem} {w : Int} (h : 0 ≤ w ∧ w ≤ 3) : g_X10_rowStep F w σ = some (sdr w, σ) := by
  obtain ⟨h1, h2⟩ := h
  rcases (by omega : w = 0 ∨ w = 1 ∨ w = 2 ∨ w = 3) with rfl | rfl | rfl | rfl <;> rfl
theorem z_max {F : Nat} {σ : mMem} {a b : Int} (h : -2147483648 ≤ a ∧ a ≤ 2147483647 ∧ -2147483648 ≤ b ∧ b ≤ 2147483647) : g_J9_max_7cf53 F a b σ = some (max a b, σ) := by
  simp (disch := omega) only [g_J9_max_7cf53, g_J9_max_7cf53_b10, mw_id]
  split <;> simp <;> omega
theorem z_min {F : Nat} {σ : mMem} {a b : Int} (h : -2147483648 ≤ a ∧ a ≤ 2147483647 ∧ -2147483648 ≤ b ∧ b ≤ 2147483647) : g_J9_min_7cf53 F a b σ = some (min a b, σ) := by
  simp (disch := omega) only [g_J9_min_7cf53, g_J9_min_7cf53_b10, mw_id]
  split <;> simp <;> omega
/-- small numbers -/
abbrev sml (z : Int) : Prop := -1000000000 ≤ z ∧ z ≤ 1000000000
theorem z_hasCell {F p : Nat} {σ : mMem} {c r : Int} (hc : sml c) (hr : sml r) (h1 : sml (σ p 9)) (h2 : sml (σ p 10)) : g_X5_hasCell F p c r σ = some (mb (sOn (σ p 9) (σ p 10) c r), σ) := by
  simp (disch := omega) only [g_X5_hasCell, g_X5_hasCell_b29, g_X5_hasCell_b28, mw_id]
  by_cases a1 : c < 0
  · simp (disch := omega) only [if_pos, mb_f]; simp
  · by_cases a2 : σ p 9 ≤ c
    · simp (disch := omega) only [if_pos, if_neg, mb_f]; simp
    · by_cases a3 : r < 0
      · simp (disch := omega) only [if_pos, if_neg, mb_f]; simp
      · by_cases a4 : σ p 10 ≤ r
        · simp (disch := omega) only [if_pos, if_neg, mb_f]; simp
        · simp (disch := omega) only [if_pos, if_neg, mb_t]; simp
