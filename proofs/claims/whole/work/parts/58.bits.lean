/-! LAYER 2: bits, as numbers -/
theorem mand_255 (a : Int) : 0 ≤ mand a 255 ∧ mand a 255 ≤ 255 := by
  unfold mand
  obtain ⟨j, hj, e⟩ := pk_andE (mI a) (m := mI 255) 8 (by decide)
  rw [e, nI_toInt (by omega)]
  omega
theorem mshr_n {a s : Int} (k : Nat) (h0 : 0 ≤ a) (h1 : a < 2147483648) (hs : ((mI s &&& 31).toBitVec.smod 32).toNat = k) : mshr a s = a / 2 ^ k := by
  obtain ⟨n, rfl⟩ := Int.eq_ofNat_of_zero_le h0
  have e : mI (n : Int) = nI n := (mI_nat n).symm
  unfold mshr
  have hn : n < 2 ^ 31 := by omega
  rw [e, pk_shrN hn _ k hs]
  have h2 : n / 2 ^ k < 2 ^ 31 := Nat.lt_of_le_of_lt (Nat.div_le_self _ _) hn
  rw [nI_toInt h2]
  simp
theorem mshl_n {a s : Int} (k : Nat) (h0 : 0 ≤ a) (h1 : a * 2 ^ k < 2147483648) (hs : ((mI s &&& 31).toBitVec.smod 32).toNat = k) : mshl a s = a * 2 ^ k := by
  obtain ⟨n, rfl⟩ := Int.eq_ofNat_of_zero_le h0
  have e : mI (n : Int) = nI n := (mI_nat n).symm
  have h2 : n * 2 ^ k < 2 ^ 31 := by
    have : ((n * 2 ^ k : Nat) : Int) = (n : Int) * 2 ^ k := by rw [Int.natCast_mul, Int.natCast_pow]; rfl
    have h3 : ((n * 2 ^ k : Nat) : Int) < 2147483648 := by rw [this]; exact h1
    omega
  unfold mshl
  rw [e, pk_shlN _ k hs (by omega), nI_toInt h2]
  rw [Int.natCast_mul, Int.natCast_pow]
  rfl
theorem mor_n {a b : Int} (k : Nat) (h0 : 0 ≤ a) (hb : 0 ≤ b ∧ b < 2 ^ k) (h1 : a * 2 ^ k + b < 2147483648) : mor (a * 2 ^ k) b = a * 2 ^ k + b := by
  obtain ⟨n, rfl⟩ := Int.eq_ofNat_of_zero_le h0
  obtain ⟨m, rfl⟩ := Int.eq_ofNat_of_zero_le hb.1
  have c : (n : Int) * 2 ^ k = ((2 ^ k * n : Nat) : Int) := by rw [Int.natCast_mul, Int.natCast_pow, Int.mul_comm]; rfl
  have hm : m < 2 ^ k := by
    have : ((2 ^ k : Nat) : Int) = (2 : Int) ^ k := by rw [Int.natCast_pow]; rfl
    omega
  rw [c] at h1 ⊢
  have e1 : mI ((2 ^ k * n : Nat) : Int) = nI (2 ^ k * n) := (mI_nat _).symm
  have e2 : mI ((m : Nat) : Int) = nI m := (mI_nat m).symm
  unfold mor
  have hor : nI (2 ^ k * n) ||| nI m = nI (2 ^ k * n + m) := by
    apply Int32.toBitVec_inj.mp
    apply BitVec.eq_of_toNat_eq
    rw [pk_tn (by omega), Int32.toBitVec_or, BitVec.toNat_or, pk_tn (by omega), pk_tn (by omega)]
    exact (Nat.two_pow_add_eq_or_of_lt hm n).symm
  rw [e1, e2, hor, nI_toInt (by omega)]
  omega
theorem mxor_sgn {a b : Int} (ha : i32 a) (hb : i32 b) : 0 ≤ mxor a b ↔ (0 ≤ a ↔ 0 ≤ b) := by
  have key : ∀ x y : BitVec 32, 0 ≤ (x ^^^ y).toInt ↔ (0 ≤ x.toInt ↔ 0 ≤ y.toInt) := by
    intro x y
    have m : ∀ z : BitVec 32, 0 ≤ z.toInt ↔ z.msb = false := by
      intro z
      have := BitVec.msb_eq_toInt (x := z)
      rw [this]
      constructor
      · intro h; exact decide_eq_false (by omega)
      · intro h; have := of_decide_eq_false h; omega
    rw [m, m, m, BitVec.msb_xor]
    cases x.msb <;> cases y.msb <;> simp
  unfold mxor
  have k := key (mI a).toBitVec (mI b).toBitVec
  have ea : (mI a).toBitVec.toInt = a := by
    have := mI_toInt a
    rw [mw_id ha.1 ha.2] at this
    exact this
  have eb : (mI b).toBitVec.toInt = b := by
    have := mI_toInt b
    rw [mw_id hb.1 hb.2] at this
    exact this
  rw [ea, eb] at k
  exact k
theorem z_fmod {F : Nat} {σ : mMem} {a m : Int} (ha : i32 a) (hm : 0 < m ∧ m ≤ 1000000) : g_J9_floorMod_7cf53 F a m σ = some (a % m, σ) := by
  have hx := mxor_sgn ha (b := m) (by omega)
  have hxr : mw (mxor a m) = mxor a m := by
    unfold mxor
    have h1 := Int32.toInt_lt (mI a ^^^ mI m)
    have h2 := Int32.le_toInt (mI a ^^^ mI m)
    exact mw_id (by omega) (by omega)
  unfold g_J9_floorMod_7cf53 g_J9_floorMod_7cf53_b18
  rw [mw_id (z := a) (by omega) (by omega), mw_id (z := m) (by omega) (by omega), hxr]
  refine e_f (by omega) (e_let ?_)
  by_cases c : 0 ≤ a
  · rw [mtmod c]
    exact e_t (hx.mpr ⟨fun _ => by omega, fun _ => c⟩) rfl
  · refine e_f (fun q => c ((hx.mp q).mpr (by omega))) ?_
    have h3 := Int.tmod_def a m
    have hb := tm_bound (a := a) (b := m) (by omega) (by omega)
    have h4 := Int.emod_nonneg a (b := m) (by omega)
    have h5 := Int.emod_lt_of_pos a hm.1
    have h6 : a.tmod m = a % m ∨ a.tmod m + m = a % m := by
      have e := Int.tmod_eq_emod (a := a) (b := m)
      rw [e]
      split <;> omega
    have h7 : 0 ≤ (-a).tmod m := Int.tmod_nonneg m (by omega)
    rw [Int.neg_tmod] at h7
    rw [mw_id (z := a.tmod m) (by omega) (by omega)]
    by_cases c0 : a.tmod m = 0
    · rw [c0]
      have : a % m = 0 := by omega
      rw [this]
      exact e_t rfl rfl
    · have : a.tmod m + m = a % m := by omega
      rw [this]
      exact e_f c0 rfl
