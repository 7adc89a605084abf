/-! numbers: an int or a long of the machine as a whole number -/
abbrev mMem : Type := Nat → Nat → Int
def mw (z : Int) : Int := z.bmod 4294967296
def mwl (z : Int) : Int := z.bmod 18446744073709551616
def mI (z : Int) : Int32 := Int32.ofInt z
def mL (z : Int) : Int64 := Int64.ofInt z
theorem mI_toInt (z : Int) : (mI z).toInt = mw z := Int32.toInt_ofInt
theorem mL_toInt (z : Int) : (mL z).toInt = mwl z := Int64.toInt_ofInt
theorem mI_of (y : Int32) : mI y.toInt = y := Int32.ofInt_toInt y
theorem mL_of (y : Int64) : mL y.toInt = y := Int64.ofInt_toInt y
theorem mw_id {z : Int} (h1 : -2147483648 ≤ z) (h2 : z ≤ 2147483647) : mw z = z := Int.bmod_eq_of_le (by omega) (by omega)
theorem mwl_id {z : Int} (h1 : -9223372036854775808 ≤ z) (h2 : z ≤ 9223372036854775807) : mwl z = z := Int.bmod_eq_of_le (by omega) (by omega)
theorem mw_rng (z : Int) : -2147483648 ≤ mw z ∧ mw z ≤ 2147483647 := by
  have h1 := Int32.le_toInt (mI z)
  have h2 := Int32.toInt_lt (mI z)
  rw [mI_toInt] at h1 h2
  omega
theorem mwl_rng (z : Int) : -9223372036854775808 ≤ mwl z ∧ mwl z ≤ 9223372036854775807 := by
  have h1 := Int64.le_toInt (mL z)
  have h2 := Int64.toInt_lt (mL z)
  rw [mL_toInt] at h1 h2
  omega
theorem mw_mw (z : Int) : mw (mw z) = mw z := mw_id (mw_rng z).1 (mw_rng z).2
theorem mI_ext {a b : Int32} (h : a.toInt = b.toInt) : a = b := Int32.toInt_inj.mp h
theorem mL_ext {a b : Int64} (h : a.toInt = b.toInt) : a = b := Int64.toInt_inj.mp h
theorem mI_w (z : Int) : mI (mw z) = mI z := mI_ext (by rw [mI_toInt, mI_toInt, mw_mw])
theorem mI_eq {a b : Int} : mI a = mI b ↔ mw a = mw b := by rw [← Int32.toInt_inj, mI_toInt, mI_toInt]
theorem mI_lt {a b : Int} : mI a < mI b ↔ mw a < mw b := by rw [Int32.lt_iff_toInt_lt, mI_toInt, mI_toInt]
theorem mI_le {a b : Int} : mI a ≤ mI b ↔ mw a ≤ mw b := by rw [Int32.le_iff_toInt_le, mI_toInt, mI_toInt]
theorem mI_0 : (0 : Int32) = mI 0 := by decide
theorem mw_0 : mw 0 = 0 := by decide
theorem mI_eq0 {a : Int} : mI a = 0 ↔ mw a = 0 := by rw [mI_0, mI_eq, mw_0]
theorem mI_lt0 {a : Int} : mI a < 0 ↔ mw a < 0 := by rw [mI_0, mI_lt, mw_0]
theorem mI_ge0 {a : Int} : 0 ≤ mI a ↔ 0 ≤ mw a := by rw [mI_0, mI_le, mw_0]
theorem mI_gt0 {a : Int} : 0 < mI a ↔ 0 < mw a := by rw [mI_0, mI_lt, mw_0]
theorem mI_le0 {a : Int} : mI a ≤ 0 ↔ mw a ≤ 0 := by rw [mI_0, mI_le, mw_0]
theorem mL_eq {a b : Int} : mL a = mL b ↔ mwl a = mwl b := by rw [← Int64.toInt_inj, mL_toInt, mL_toInt]
theorem mL_lt {a b : Int} : mL a < mL b ↔ mwl a < mwl b := by rw [Int64.lt_iff_toInt_lt, mL_toInt, mL_toInt]
theorem mL_le {a b : Int} : mL a ≤ mL b ↔ mwl a ≤ mwl b := by rw [Int64.le_iff_toInt_le, mL_toInt, mL_toInt]
theorem mL_0 : (0 : Int64) = mL 0 := by decide
theorem mwl_0 : mwl 0 = 0 := by decide
theorem mL_eq0 {a : Int} : mL a = 0 ↔ mwl a = 0 := by rw [mL_0, mL_eq, mwl_0]
theorem mI_add (a b : Int) : mI a + mI b = mI (a + b) := (Int32.ofInt_add a b).symm
theorem mI_sub (a b : Int) : mI a - mI b = mI (a - b) := (Int32.ofInt_sub a b).symm
theorem mI_mul (a b : Int) : mI a * mI b = mI (a * b) := (Int32.ofInt_mul a b).symm
theorem mI_neg (a : Int) : -mI a = mI (-a) := (Int32.ofInt_neg a).symm
theorem mL_add (a b : Int) : mL a + mL b = mL (a + b) := (Int64.ofInt_add a b).symm
theorem mL_sub (a b : Int) : mL a - mL b = mL (a - b) := (Int64.ofInt_sub a b).symm
theorem mL_mul (a b : Int) : mL a * mL b = mL (a * b) := (Int64.ofInt_mul a b).symm
theorem mL_neg (a : Int) : -mL a = mL (-a) := (Int64.ofInt_neg a).symm
theorem mI_div (a b : Int) : mI a / mI b = mI ((mw a).tdiv (mw b)) := mI_ext (by rw [Int32.toInt_div, mI_toInt, mI_toInt, mI_toInt]; rfl)
theorem mL_div (a b : Int) : mL a / mL b = mL ((mwl a).tdiv (mwl b)) := mL_ext (by rw [Int64.toInt_div, mL_toInt, mL_toInt, mL_toInt]; rfl)
theorem mI_rem (a b : Int) : mI a - mI a / mI b * mI b = mI ((mw a).tmod (mw b)) := by
  rw [mI_div, ← mI_w b, mI_mul, ← mI_w a, mI_sub, Int.tmod_def, Int.mul_comm]
theorem mL_w (z : Int) : mL (mwl z) = mL z := mL_ext (by rw [mL_toInt, mL_toInt, mwl_id (mwl_rng z).1 (mwl_rng z).2])
theorem mL_rem (a b : Int) : mL a - mL a / mL b * mL b = mL ((mwl a).tmod (mwl b)) := by
  rw [mL_div, ← mL_w b, mL_mul, ← mL_w a, mL_sub, Int.tmod_def, Int.mul_comm]
def mand (a b : Int) : Int := (mI a &&& mI b).toInt
def mor (a b : Int) : Int := (mI a ||| mI b).toInt
def mxor (a b : Int) : Int := (mI a ^^^ mI b).toInt
def mshl (a b : Int) : Int := (mI a <<< (mI b &&& 31)).toInt
def mshr (a b : Int) : Int := (mI a >>> (mI b &&& 31)).toInt
def mland (a b : Int) : Int := (mL a &&& mL b).toInt
def mlor (a b : Int) : Int := (mL a ||| mL b).toInt
def mlxor (a b : Int) : Int := (mL a ^^^ mL b).toInt
def mlshl (a b : Int) : Int := (mL a <<< ((mI b).toInt64 &&& 63)).toInt
def mlshr (a b : Int) : Int := (mL a >>> ((mI b).toInt64 &&& 63)).toInt
theorem mI_i2l (a : Int) : (mI a).toInt64 = mL (mw a) := mL_ext (by
  rw [Int32.toInt_toInt64, mI_toInt, mL_toInt]
  have := mw_rng a
  rw [mwl_id (by omega) (by omega)])
theorem mL_l2i (a : Int) : (mL a).toInt32 = mI a := mI_ext (by
  rw [Int64.toInt_toInt32, mL_toInt, mI_toInt]
  unfold mw mwl
  exact Int.bmod_bmod_of_dvd (by decide))
/-- an index within -/
theorem mI_in {i : Int} {n : Nat} (h : 0 ≤ mw i ∧ mw i < (n : Int)) : vp_in (mI i) n ∧ (mI i).toNatClampNeg = (mw i).toNat := by
  have e : (mI i).toNatClampNeg = (mw i).toNat := by
    show (mI i).toInt.toNat = _
    rw [mI_toInt]
  refine ⟨vp_in_iff.mpr ?_, e⟩
  rw [mI_toInt]
  exact h
/-- the road of a model: a call, and what goes on behind it -/
def mob (q : Option (Int × mMem)) (k : Int → mMem → Option (Int × mMem)) : Option (Int × mMem) := match q with
  | none => none
  | some (r, σ) => k r σ
theorem mob_some {q : Option (Int × mMem)} {k : Int → mMem → Option (Int × mMem)} {z : Int × mMem} (h : mob q k = some z) : ∃ r σ, q = some (r, σ) ∧ k r σ = some z := by
  cases q with
  | none => cases h
  | some x => exact ⟨x.1, x.2, rfl, h⟩
theorem mob_eq (r : Int) (σ : mMem) (k : Int → mMem → Option (Int × mMem)) : mob (some (r, σ)) k = k r σ := rfl
def mupo (σ : mMem) (o : Nat) (r : Nat → Int) : mMem := fun q => if q = o then r else σ q
def mup1 (r : Nat → Int) (k : Nat) (z : Int) : Nat → Int := fun j => if j = k then z else r j
def mup (σ : mMem) (o k : Nat) (z : Int) : mMem := mupo σ o (mup1 (σ o) k z)
def mcpy (f g : Nat → Int) (sp dp n : Nat) : Nat → Int := fun k => if dp ≤ k ∧ k < dp + n then f (sp + (k - dp)) else g k
