/-! LAYER 2: letter -/
theorem mlshr_k {a s : Int} (k : Nat) (ha : -9223372036854775808 ≤ a ∧ a ≤ 9223372036854775807) (hs : (((mI s).toInt64 &&& 63).toBitVec.smod 64).toNat = k) : mlshr a s = a / 2 ^ k := by
  unfold mlshr
  rw [← Int64.toInt_toBitVec, Int64.toBitVec_shiftRight]
  unfold BitVec.sshiftRight'
  rw [BitVec.toInt_sshiftRight, hs, Int64.toInt_toBitVec, mL_toInt, mwl_id ha.1 ha.2, Int.shiftRight_eq_div_pow, Int.natCast_pow]
  rfl
theorem mland_k {a : Int} (k : Nat) (m : Int) (hk : k < 63) (ha : 0 ≤ a ∧ a ≤ 9223372036854775807) (hm : (mL m).toBitVec.toNat = 2 ^ k - 1) : mland a m = a % 2 ^ k := by
  obtain ⟨n, rfl⟩ := Int.eq_ofNat_of_zero_le ha.1
  have hn : (mL (n : Int)).toBitVec.toNat = n := by
    have : (mL (n : Int)).toBitVec = BitVec.ofInt 64 (n : Int) := rfl
    rw [this, BitVec.toNat_ofInt]
    omega
  have e : (mL (n : Int) &&& mL m).toBitVec.toNat = n % 2 ^ k := by
    rw [Int64.toBitVec_and, BitVec.toNat_and, hn, hm, Nat.and_two_pow_sub_one_eq_mod]
  have lt : n % 2 ^ k < 2 ^ 63 := by
    have h1 := Nat.mod_lt n (Nat.two_pow_pos k)
    have h2 : 2 ^ k ≤ 2 ^ 63 := Nat.pow_le_pow_right (by decide) (by omega)
    omega
  unfold mland
  rw [← Int64.toInt_toBitVec, BitVec.toInt_eq_toNat_of_lt (by rw [e]; omega), e, Int.natCast_emod, Int.natCast_pow]
  rfl
theorem mand_k {a : Int} (k : Nat) (m : Int) (hk : k < 31) (ha : 0 ≤ a ∧ a ≤ 2147483647) (hm : (mI m).toBitVec.toNat = 2 ^ k - 1) : mand a m = a % 2 ^ k := by
  obtain ⟨n, rfl⟩ := Int.eq_ofNat_of_zero_le ha.1
  have hn : (mI (n : Int)).toBitVec.toNat = n := by
    have : (mI (n : Int)).toBitVec = BitVec.ofInt 32 (n : Int) := rfl
    rw [this, BitVec.toNat_ofInt]
    omega
  have e : (mI (n : Int) &&& mI m).toBitVec.toNat = n % 2 ^ k := by
    rw [Int32.toBitVec_and, BitVec.toNat_and, hn, hm, Nat.and_two_pow_sub_one_eq_mod]
  have lt : n % 2 ^ k < 2 ^ 31 := by
    have h1 := Nat.mod_lt n (Nat.two_pow_pos k)
    have h2 : 2 ^ k ≤ 2 ^ 31 := Nat.pow_le_pow_right (by decide) (by omega)
    omega
  unfold mand
  rw [← Int32.toInt_toBitVec, BitVec.toInt_eq_toNat_of_lt (by rw [e]; omega), e, Int.natCast_emod, Int.natCast_pow]
  rfl
/-- the class's letter -/
theorem zc_let {L : Nat → Int} {i : Nat} (hL : ∀ j, 0 ≤ L j ∧ L j ≤ 26) (hi : i < 6) : mand (mshr (L 0 * 33554432 + L 1 * 1048576 + L 2 * 32768 + L 3 * 1024 + L 4 * 32 + L 5) (5 * (5 - (i : Int)))) 31 = L i := by
  have l0 := hL 0
  have l1 := hL 1
  have l2 := hL 2
  have l3 := hL 3
  have l4 := hL 4
  have l5 := hL 5
  rcases (by omega : i = 0 ∨ i = 1 ∨ i = 2 ∨ i = 3 ∨ i = 4 ∨ i = 5) with rfl | rfl | rfl | rfl | rfl | rfl
  · rw [mshr_n 25 (by omega) (by omega) (by decide), mand_k 5 31 (by decide) (by omega) (by decide)]; omega
  · rw [mshr_n 20 (by omega) (by omega) (by decide), mand_k 5 31 (by decide) (by omega) (by decide)]; omega
  · rw [mshr_n 15 (by omega) (by omega) (by decide), mand_k 5 31 (by decide) (by omega) (by decide)]; omega
  · rw [mshr_n 10 (by omega) (by omega) (by decide), mand_k 5 31 (by decide) (by omega) (by decide)]; omega
  · rw [mshr_n 5 (by omega) (by omega) (by decide), mand_k 5 31 (by decide) (by omega) (by decide)]; omega
  · rw [mshr_n 0 (by omega) (by omega) (by decide), mand_k 5 31 (by decide) (by omega) (by decide)]; omega
theorem hw_rng {L : Nat → Int} : ∀ n, (∀ j, j < n → 1 ≤ L j ∧ L j ≤ 26) → 0 ≤ hw L n ∧ hw L n < 256 ^ n
  | 0, _ => by unfold hw; decide
  | n + 1, h => by
    have ih := hw_rng n (fun j hj => h j (by omega))
    have := h n (by omega)
    unfold hw
    rw [Int.pow_succ]
    omega
theorem hw_div {L : Nat → Int} {n : Nat} (h : 1 ≤ L n ∧ L n ≤ 26) : hw L (n + 1) / 256 = hw L n := by
  show (256 * hw L n + (L n + 96)) / 256 = hw L n
  omega
theorem hw_pos {L : Nat → Int} {n : Nat} (h : ∀ j, j < n + 1 → 1 ≤ L j ∧ L j ≤ 26) : 0 < hw L (n + 1) := by
  have := hw_rng n (fun j hj => h j (by omega))
  have := h n (by omega)
  unfold hw
  omega
/-- how many letters: the reference counts them -/
theorem zr_len {F x2 w : Nat} {τ : mMem} {L : Nat → Int} {W : Int} (hn : w ≤ 6) (hL : ∀ j, j < w → 1 ≤ L j ∧ L j ≤ 26) : ∀ (d k fuel : Nat), d + k = w → d < fuel → g_X12_letter_h40 F fuel (x2 : Int) W (k : Int) (hw L d) τ = (if mw (x2 : Int) < mw (w : Int) then (g_X12_letter_b91 F (((mland (mlshr W (8 * (((w : Int) - 1) - x2))) 255) - 97) + 1) τ) else (g_X12_letter_b91 F 0 τ)) := by
  intro d
  induction d with
  | zero =>
    intro k fuel h1 h2
    obtain ⟨f, rfl⟩ : ∃ f, fuel = f + 1 := ⟨fuel - 1, by omega⟩
    have ek : k = w := by omega
    subst ek
    unfold g_X12_letter_h40
    exact e_t (by unfold hw; decide) rfl
  | succ d ih =>
    intro k fuel h1 h2
    obtain ⟨f, rfl⟩ : ∃ f, fuel = f + 1 := ⟨fuel - 1, by omega⟩
    have hp := hw_pos (L := L) (n := d) (fun j hj => hL j (by omega))
    have hr := hw_rng (d + 1) (fun j hj => hL j (by omega))
    have h6 : (256 : Int) ^ (d + 1) ≤ 256 ^ 6 := by
      rcases (by omega : d = 0 ∨ d = 1 ∨ d = 2 ∨ d = 3 ∨ d = 4 ∨ d = 5) with rfl | rfl | rfl | rfl | rfl | rfl <;> decide
    conv => lhs; unfold g_X12_letter_h40
    rw [mwl_id (z := hw L (d + 1)) (by omega) (by omega), mlshr_k (a := hw L (d + 1)) (s := 8) 8 (by omega) (by decide), show (2 : Int) ^ 8 = 256 by decide, hw_div (hL d (by omega))]
    refine e_f (by rw [mwl_id (by decide) (by decide)]; omega) (e_let ?_)
    rw [← ih (k + 1) f (by omega) (by omega), show ((k + 1 : Nat) : Int) = (k : Int) + 1 by omega]
theorem zr_let {L : Nat → Int} {n i : Nat} (hn : n ≤ 6) (hi : i < n) (hL : ∀ j, j < n → 1 ≤ L j ∧ L j ≤ 26) : mland (mlshr (hw L n) (8 * (((n : Int) - 1) - i))) 255 - 97 + 1 = L i := by
  have hr := hw_rng n hL
  have h6 : (256 : Int) ^ n ≤ 256 ^ 6 := by
    rcases (by omega : n = 0 ∨ n = 1 ∨ n = 2 ∨ n = 3 ∨ n = 4 ∨ n = 5 ∨ n = 6) with rfl | rfl | rfl | rfl | rfl | rfl | rfl <;> decide
  have dd : ∀ (e k : Nat), e + k = n → hw L n / 256 ^ e = hw L k := by
    intro e
    induction e with
    | zero => intro k hk; rw [show k = n by omega, Int.pow_zero, Int.ediv_one]
    | succ e ih =>
      intro k hk
      rw [Int.pow_succ, ← Int.ediv_ediv_of_nonneg (Int.pow_nonneg (by decide)), ih (k + 1) (by omega), hw_div (hL k (by omega))]
  have q : hw L n / 256 ^ (n - 1 - i) = hw L (i + 1) := dd (n - 1 - i) (i + 1) (by omega)
  have lr := hL i hi
  have k2 := hw_rng (i + 1) (fun j hj => hL j (by omega))
  have h7 : (256 : Int) ^ (i + 1) ≤ 256 ^ 6 := by
    rcases (by omega : i = 0 ∨ i = 1 ∨ i = 2 ∨ i = 3 ∨ i = 4 ∨ i = 5) with rfl | rfl | rfl | rfl | rfl | rfl <;> decide
  have e1 : mlshr (hw L n) (8 * (((n : Int) - 1) - i)) = hw L (i + 1) := by
    rw [← q]
    have ee : 8 * (((n : Int) - 1) - i) = ((8 * (n - 1 - i) : Nat) : Int) := by omega
    rw [ee]
    rcases (by omega : n - 1 - i = 0 ∨ n - 1 - i = 1 ∨ n - 1 - i = 2 ∨ n - 1 - i = 3 ∨ n - 1 - i = 4 ∨ n - 1 - i = 5) with e | e | e | e | e | e <;> rw [e]
    · rw [mlshr_k 0 (by omega) (by decide)]; rfl
    · rw [mlshr_k 8 (by omega) (by decide)]; rfl
    · rw [mlshr_k 16 (by omega) (by decide)]; rfl
    · rw [mlshr_k 24 (by omega) (by decide)]; rfl
    · rw [mlshr_k 32 (by omega) (by decide)]; rfl
    · rw [mlshr_k 40 (by omega) (by decide)]; rfl
  rw [e1, mland_k 8 255 (by decide) (by omega) (by decide)]
  unfold hw
  omega
theorem a_letter {F : Nat} {σ : mMem} {p s : Nat} {N x y : Int} (hF : 2000 ≤ F) (hx : i32 x) (hy : i32 y) (r : Rel σ p s N) : Alk (g_X11_letter F x y) (g_X12_letter F x y) σ N := by
  have sm := r.same (N' := N + 1) (by omega) (fun _ _ _ => rfl) (fun _ _ _ => rfl)
  obtain ⟨hp, h08, h08n, h20, h20n, hP, hR, h11, h9, h10, hB, hst, hla, h57, h60, h62⟩ := r.now
  have hN := r.2.2.2.2.1.2.2.2.2.2
  have hb13 := hR.1
  unfold Alk g_X11_letter g_X12_letter g_X11_letter_b21 g_X12_letter_b17
  simp only [h08n, if_pos h08, zc_hasBox hx h11, mob_sm, mw_id hx.1 hx.2, mw_id hy.1 hy.2, show mw 6 = 6 by decide]
  by_cases c1 : 0 ≤ x ∧ x < σ p 11
  · by_cases c2 : 0 ≤ y ∧ y ≤ 5
    · obtain ⟨b, eb⟩ : ∃ b : Nat, x = (b : Int) := ⟨x.toNat, by omega⟩
      subst eb
      obtain ⟨i, ei⟩ : ∃ i : Nat, y = (i : Int) := ⟨y.toNat, by omega⟩
      subst ei
      obtain ⟨n, L, l1, l2, l3, l4, l5⟩ := hN b (by omega)
      have L26 : ∀ j, 0 ≤ L j ∧ L j ≤ 26 := fun j => by
        by_cases c : j < n
        · have := l2 j c; omega
        · rw [l3 j (by omega)]; decide
      refine ⟨L i, σ, σ, p, s, ?_, e_mob (zr_isBox hx hR h11) ?_, sm⟩
      · rw [mb_t c1]
        refine e_f (by decide) (e_f (by omega) (e_t (by omega) (e_t (by omega) (e_mob (rfl : g_X5_shiftOf F (i : Int) σ = some (5 * (5 - (i : Int)), σ)) ?_))))
        rw [show ((b : Int)).toNat = b by omega, l4, zc_let L26 (by omega)]
      · rw [mb_t c1]
        refine e_f (by decide) (e_mob (zr_isi (by omega)) ?_)
        rw [mb_t c2]
        refine e_t (by decide) ?_
        rw [mw_id (z := 6 * σ 86 13 + (b : Int)) (by omega) (by omega), show (6 * σ 86 13 + (b : Int)).toNat = 6 * (σ 86 13).toNat + b by omega, l5]
        refine e_t (by omega) (e_let ((zr_len (F := F) (x2 := i) (τ := σ) (L := L) (W := hw L n) l1.2 l2 n 0 F (by omega) (by omega)).trans ?_))
        unfold g_X12_letter_b91
        rw [mw_id (z := (i : Int)) (by omega) (by omega), mw_id (z := (n : Int)) (by omega) (by omega)]
        by_cases c : (i : Int) < n
        · rw [if_pos c, zr_let l1.2 (by omega) l2]
        · rw [if_neg c, l3 i (by omega)]
    · refine ⟨-1, σ, σ, p, s, ?_, e_mob (zr_isBox hx hR h11) ?_, sm⟩
      · rw [mb_t c1]
        refine e_f (by decide) ?_
        by_cases c3 : y < 0
        · exact e_t c3 rfl
        · exact e_f c3 (e_f (by omega) rfl)
      · rw [mb_t c1]
        refine e_f (by decide) (e_mob (zr_isi (by omega)) ?_)
        rw [mb_f c2]
        exact e_f (by decide) rfl
  · refine ⟨-1, σ, σ, p, s, ?_, e_mob (zr_isBox hx hR h11) ?_, sm⟩
    · rw [mb_f c1]
      exact e_t (by decide) rfl
    · rw [mb_f c1]
      exact e_t (by decide) rfl
