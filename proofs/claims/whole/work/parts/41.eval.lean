/-! LAYER 2: what a formula's code works out -/
abbrev sL (z : Int) : Prop := -4000000000000000 ≤ z ∧ z ≤ 4000000000000000
def sFl (a b : Int) : Int := if b = 0 then 0 else if a.tmod b ≠ 0 ∧ ((a < 0) ≠ (b < 0)) then a.tdiv b - 1 else a.tdiv b
theorem mlxor_neg {a b : Int} (ha : sL a) (hb : sL b) : (mwl (mlxor a b) < 0) ↔ ((a < 0) ≠ (b < 0)) := by
  have e : mwl (mlxor a b) = (mL a ^^^ mL b).toInt := by
    unfold mlxor
    rw [← mL_toInt, mL_of]
  have h1 : ∀ z : Int64, (z.toInt < 0) ↔ z.toBitVec.msb = true := fun z => by
    rw [BitVec.msb_eq_toInt]
    exact (decide_eq_true_iff).symm
  have h2 : ∀ z : Int, sL z → ((mL z).toInt < 0 ↔ z < 0) := fun z hz => by rw [mL_toInt, mwl_id (by omega) (by omega)]
  rw [e, h1]
  have h3 := h2 a ha
  have h4 := h2 b hb
  rw [h1] at h3 h4
  rw [Int64.toBitVec_xor, BitVec.msb_xor]
  cases hA : (mL a).toBitVec.msb <;> cases hB : (mL b).toBitVec.msb <;> simp [hA, hB] at h3 h4 ⊢ <;> omega
theorem tm_bound {a b : Int} (ha : sL a) (hb : sL b) : sL (a.tmod b) := by
  by_cases h : b = 0
  · subst h; simp only [Int.tmod_zero]; exact ha
  · have h1 : (a.tmod b).natAbs = a.natAbs % b.natAbs := Int.natAbs_tmod a b
    have h2 := Nat.mod_lt a.natAbs (by omega : 0 < b.natAbs)
    omega
theorem td_bound {a b : Int} (ha : -1000000 ≤ a ∧ a ≤ 1000000) : -1000000 ≤ a.tdiv b ∧ a.tdiv b ≤ 1000000 := by
  have h := Int.natAbs_tdiv_le_natAbs a b
  omega
theorem z_floorDiv {F : Nat} {σ : mMem} {a b : Int} (ha : -1000000 ≤ a ∧ a ≤ 1000000) (hb : -1000000 ≤ b ∧ b ≤ 1000000) (h0 : b ≠ 0) : g_J9_floorDiv_f86c9 F a b σ = some (sFl a b, σ) := by
  have hd := td_bound (b := b) ha
  have hx := mlxor_neg (a := a) (b := b) (by omega) (by omega)
  have hm : (a.tdiv b * b = a) ↔ a.tmod b = 0 := by
    have := Int.mul_tdiv_add_tmod a b
    rw [Int.mul_comm] at this
    omega
  have hmb : sL (a.tdiv b * b) := by
    have := Int.mul_tdiv_add_tmod a b
    have h3 : (a.tmod b).natAbs = a.natAbs % b.natAbs := Int.natAbs_tmod a b
    have h4 := Nat.mod_le a.natAbs b.natAbs
    rw [Int.mul_comm] at this
    omega
  simp (disch := omega) only [g_J9_floorDiv_f86c9, g_J9_floorDiv_f86c9_b27, mlet, mwl_id, if_neg, sFl]
  simp only [mwl_0, hm]
  have hx2 : (0 ≤ mwl (mlxor a b)) ↔ ¬ ((a < 0) ≠ (b < 0)) := by
    rw [← hx]
    omega
  simp only [hx2]
  generalize a.tdiv b = q at *
  generalize a.tmod b = m at *
  by_cases c1 : (a < 0) ≠ (b < 0)
  · by_cases c2 : m = 0
    · simp [c1, c2]
    · simp [c1, c2]
  · simp [c1]
theorem z_floorMod {F : Nat} {σ : mMem} {a b : Int} (ha : -1000000 ≤ a ∧ a ≤ 1000000) (hb : -1000000 ≤ b ∧ b ≤ 1000000) (h0 : b ≠ 0) : g_J9_floorMod_f86c9 F a b σ = some (a - b * sFl a b, σ) := by
  have hx := mlxor_neg (a := a) (b := b) (by omega) (by omega)
  have h3 := tm_bound (a := a) (b := b) (by omega) (by omega)
  have hq := Int.mul_tdiv_add_tmod a b
  simp (disch := omega) only [g_J9_floorMod_f86c9, g_J9_floorMod_f86c9_b25, mlet, mwl_id, if_neg, sFl]
  have hx2 : (0 ≤ mwl (mlxor a b)) ↔ ¬ ((a < 0) ≠ (b < 0)) := by
    rw [← hx]
    omega
  simp only [hx2]
  by_cases c1 : a.tmod b ≠ 0 ∧ ((a < 0) ≠ (b < 0))
  · rw [if_pos c1, if_neg (fun q => q c1.2), if_neg c1.1, Int.mul_sub, Int.mul_one]
    have e : a.tmod b + b = a - (b * a.tdiv b - b) := by omega
    rw [e]
  · rw [if_neg c1]
    have e : a.tmod b = a - b * a.tdiv b := by omega
    rw [← e]
    by_cases c2 : ((a < 0) ≠ (b < 0))
    · rw [if_neg (fun q => q c2)]
      have c3 : a.tmod b = 0 := by
        by_cases c4 : a.tmod b = 0
        · exact c4
        · exact absurd ⟨c4, c2⟩ c1
      rw [if_pos c3]
    · rw [if_pos c2]
theorem z_minl {F : Nat} {σ : mMem} {a b : Int} (h : sL a ∧ sL b) : g_J9_min_f86c9 F a b σ = some (min a b, σ) := by
  simp (disch := omega) only [g_J9_min_f86c9, g_J9_min_f86c9_b11, mwl_id]
  grind
theorem z_maxl {F : Nat} {σ : mMem} {a b : Int} (h : sL a ∧ sL b) : g_J9_max_f86c9 F a b σ = some (max a b, σ) := by
  simp (disch := omega) only [g_J9_max_f86c9, g_J9_max_f86c9_b11, mwl_id]
  grind
theorem fl_bound {a b : Int} (ha : -1000000 ≤ a ∧ a ≤ 1000000) : -1000001 ≤ sFl a b ∧ sFl a b ≤ 1000000 := by
  have hd := td_bound (b := b) ha
  unfold sFl
  split
  · omega
  · split <;> omega
abbrev sV (z : Int) : Prop := -1000000 ≤ z ∧ z ≤ 1000000
def clp (z : Int) : Int := max (-1000000) (min 1000000 z)
theorem clp_id {z : Int} (h : sV z) : clp z = z := by unfold clp; omega
theorem clp_v (z : Int) : sV (clp z) := by unfold clp sV; omega
/-- two values joined, by the class's numbers of what joins them -/
def sJ (op a b : Int) : Int :=
  if op = 3 then a + b else if op = 4 then a - b else if op = 5 then a * b else if op = 6 then sFl a b else if op = 7 then (if b = 0 then 0 else a - b * sFl a b)
  else if op = 8 then min a b else if op = 9 then max a b else if op = 10 then mb (a < b) else if op = 11 then mb (b < a) else if op = 12 then mb (a = b)
  else if op = 13 then mb (a ≠ 0 ∧ b ≠ 0) else mb (a ≠ 0 ∨ b ≠ 0)
theorem sFl_0 (a : Int) : sFl a 0 = 0 := by unfold sFl; rw [if_pos rfl]
theorem z_joined {F : Nat} {σ : mMem} {op a b : Int} (ha : sV a) (hb : sV b) (h : 3 ≤ op ∧ op ≤ 14) : g_X2_joined F op a b σ = some (sJ op a b, σ) := by
  have hd := fl_bound (b := b) ha
  rcases (by omega : op = 3 ∨ op = 4 ∨ op = 5 ∨ op = 6 ∨ op = 7 ∨ op = 8 ∨ op = 9 ∨ op = 10 ∨ op = 11 ∨ op = 12 ∨ op = 13 ∨ op = 14) with rfl | rfl | rfl | rfl | rfl | rfl | rfl | rfl | rfl | rfl | rfl | rfl
  all_goals simp (disch := omega) only [g_X2_joined, g_X2_joined_b99, g_X2_joined_b115, g_X2_joined_b139, g_X2_joined_b151, g_X2_joined_b163, g_X2_joined_b181, g_X2_joined_b180, g_X2_joined_b199, g_X2_joined_b194, g_X2_joined_b211, mw_id, mwl_id, if_neg, if_pos, sJ, ↓reduceIte]
  · by_cases h0 : b = 0
    · subst h0; simp [sFl_0]
    · rw [if_pos h0, z_floorDiv ha hb h0, mob_eq]
  · by_cases h0 : b = 0
    · subst h0; simp
    · rw [if_pos h0, z_floorMod ha hb h0, mob_eq, if_neg h0]
  · rw [z_minl (by omega), mob_eq]
  · rw [z_maxl (by omega), mob_eq]
  all_goals (unfold mb; grind)
theorem z_joined2 {F : Nat} {σ : mMem} {a b : Int} (ha : sV a) : g_X2_joined F 2 a b σ = some (mb (a = 0), σ) := by
  simp (disch := omega) only [g_X2_joined, g_X2_joined_b211, mw_id, mwl_id, if_pos, ↓reduceIte]
  unfold mb
  grind
theorem z_joined15 {F : Nat} {σ : mMem} {a b : Int} : g_X2_joined F 15 a b σ = some (b, σ) := by
  simp (disch := omega) only [g_X2_joined, mw_id, if_pos, if_neg, ↓reduceIte]
theorem z_joined01 {F : Nat} {σ : mMem} {op a b : Int} (h : op = 0 ∨ op = 1) : g_X2_joined F op a b σ = some (a, σ) := by
  rcases h with rfl | rfl <;> simp (disch := omega) only [g_X2_joined, mw_id, if_neg]
theorem z_needs {F : Nat} {σ : mMem} {op : Int} (h : 0 ≤ op ∧ op ≤ 15) : g_X2_needsOf F op σ = some (if op < 2 then 0 else if op = 2 then 1 else if op = 15 then 3 else 2, σ) := by
  simp (disch := omega) only [g_X2_needsOf, g_X2_needsOf_b25, mw_id]
  grind
theorem sJ_bound {op a b : Int} (ha : sV a) (hb : sV b) : sL (sJ op a b) := by
  have hd := fl_bound (b := b) ha
  have hm : -1000000000000 ≤ a * b ∧ a * b ≤ 1000000000000 := by
    have h1 : (a * b).natAbs ≤ 1000000 * 1000000 := by
      rw [Int.natAbs_mul]
      exact Nat.mul_le_mul (by omega) (by omega)
    omega
  have hm2 : -2000000000000 ≤ b * sFl a b ∧ b * sFl a b ≤ 2000000000000 := by
    have h1 : (b * sFl a b).natAbs ≤ 1000000 * 1000001 := by
      rw [Int.natAbs_mul]
      exact Nat.mul_le_mul (by omega) (by omega)
    omega
  have hb1 := mb_rng (a < b)
  have hb2 := mb_rng (b < a)
  have hb3 := mb_rng (a = b)
  have hb4 := mb_rng (a ≠ 0 ∧ b ≠ 0)
  have hb5 := mb_rng (a ≠ 0 ∨ b ≠ 0)
  unfold sJ
  repeat' split
  all_goals omega
