/-! LAYER 2: kitchen, the reference reads a sign -/
theorem mL_tn {n : Nat} (h : n < 2 ^ 63) : (mL (n : Int)).toBitVec.toNat = n := by
  have : (mL (n : Int)).toBitVec = BitVec.ofInt 64 (n : Int) := rfl
  rw [this, BitVec.toNat_ofInt]
  omega
theorem mlshl_k {a : Int} (k : Nat) (s : Int) (h0 : 0 ≤ a) (h1 : a * 2 ^ k < 9223372036854775808) (hk : k < 64) (hs : (((mI s).toInt64 &&& 63).toBitVec.smod 64).toNat = k) : mlshl a s = a * 2 ^ k := by
  obtain ⟨n, rfl⟩ := Int.eq_ofNat_of_zero_le h0
  have e : ((n * 2 ^ k : Nat) : Int) = (n : Int) * 2 ^ k := by rw [Int.natCast_mul, Int.natCast_pow]; rfl
  have h2 : n * 2 ^ k < 2 ^ 63 := by
    have : ((n * 2 ^ k : Nat) : Int) < 9223372036854775808 := by rw [e]; exact h1
    omega
  have hn : n < 2 ^ 63 := by
    have : n * 1 ≤ n * 2 ^ k := Nat.mul_le_mul_left n (Nat.one_le_two_pow)
    omega
  have t : (mL (n : Int) <<< ((mI s).toInt64 &&& 63)).toBitVec.toNat = n * 2 ^ k := by
    rw [Int64.toBitVec_shiftLeft, BitVec.shiftLeft_eq', BitVec.toNat_shiftLeft, hs, mL_tn hn, Nat.shiftLeft_eq]
    omega
  unfold mlshl
  rw [← Int64.toInt_toBitVec, BitVec.toInt_eq_toNat_of_lt (by rw [t]; omega), t, e]
theorem mlor_k {a b : Int} (k : Nat) (h0 : 0 ≤ a) (hb : 0 ≤ b ∧ b < 2 ^ k) (h1 : a * 2 ^ k + b < 9223372036854775808) : mlor (a * 2 ^ k) b = a * 2 ^ k + b := by
  obtain ⟨n, rfl⟩ := Int.eq_ofNat_of_zero_le h0
  obtain ⟨m, rfl⟩ := Int.eq_ofNat_of_zero_le hb.1
  have c : (n : Int) * 2 ^ k = ((2 ^ k * n : Nat) : Int) := by rw [Int.natCast_mul, Int.natCast_pow, Int.mul_comm]; rfl
  have hm : m < 2 ^ k := by
    have : ((2 ^ k : Nat) : Int) = (2 : Int) ^ k := by rw [Int.natCast_pow]; rfl
    omega
  rw [c] at h1 ⊢
  have t : (mL ((2 ^ k * n : Nat) : Int) ||| mL (m : Int)).toBitVec.toNat = 2 ^ k * n + m := by
    rw [Int64.toBitVec_or, BitVec.toNat_or, mL_tn (by omega), mL_tn (by omega)]
    exact (Nat.two_pow_add_eq_or_of_lt hm n).symm
  unfold mlor
  rw [← Int64.toInt_toBitVec, BitVec.toInt_eq_toNat_of_lt (by rw [t]; omega), t]
  omega
theorem r_let {F : Nat} {σ : mMem} {x : Int} (hx : i32 x) : g_X12_isLetter F x σ = some (mb (97 ≤ x ∧ x ≤ 122), σ) := by
  unfold g_X12_isLetter g_X12_isLetter_b16 g_X12_isLetter_b17
  rw [mw_id hx.1 hx.2, mw_id (z := 97) (by decide) (by decide), mw_id (z := 122) (by decide) (by decide)]
  by_cases c1 : x < 97
  · rw [mb_f (by omega)]; exact e_t c1 (e_t (by decide) rfl)
  · by_cases c2 : 122 < x
    · rw [mb_f (by omega)]; exact e_f c1 (e_t c2 (e_t (by decide) rfl))
    · rw [mb_t (by omega)]; exact e_f c1 (e_f c2 (e_t (by decide) rfl))
theorem r_dig {F : Nat} {σ : mMem} {x : Int} (hx : i32 x) : g_X12_isDigit F x σ = some (mb (48 ≤ x ∧ x ≤ 57), σ) := by
  unfold g_X12_isDigit g_X12_isDigit_b16 g_X12_isDigit_b17
  rw [mw_id hx.1 hx.2, mw_id (z := 48) (by decide) (by decide), mw_id (z := 57) (by decide) (by decide)]
  by_cases c1 : x < 48
  · rw [mb_f (by omega)]; exact e_t c1 (e_t (by decide) rfl)
  · by_cases c2 : 57 < x
    · rw [mb_f (by omega)]; exact e_f c1 (e_t c2 (e_t (by decide) rfl))
    · rw [mb_t (by omega)]; exact e_f c1 (e_f c2 (e_t (by decide) rfl))
/-- the letters of a word as numbers from 1 -/
abbrev xLs (b : Nat → Int) (s i : Nat) : Int := b (s + i) - 96
def FA (τ' τ : mMem) : Prop := (∀ q, q ≠ 86 → τ' q = τ q) ∧ ∀ j, j ≠ 3 → j ≠ 4 → j ≠ 5 → j ≠ 6 → j ≠ 7 → j ≠ 12 → τ' 86 j = τ 86 j
theorem FA.rfl' {τ : mMem} : FA τ τ := ⟨fun _ _ => rfl, fun _ _ _ _ _ _ _ => rfl⟩
theorem FA.tr {a b c : mMem} (h : FA a b) (g : FA b c) : FA a c := ⟨fun q hq => (h.1 q hq).trans (g.1 q hq), fun j a1 a2 a3 a4 a5 a6 => (h.2 j a1 a2 a3 a4 a5 a6).trans (g.2 j a1 a2 a3 a4 a5 a6)⟩
theorem FA.up {τ' τ : mMem} {j : Nat} {z : Int} (h : FA τ' τ) (hj : j = 3 ∨ j = 4 ∨ j = 5 ∨ j = 6 ∨ j = 7 ∨ j = 12) : FA (mup τ' 86 j z) τ := ⟨fun q hq => by rw [mup_off hq]; exact h.1 q hq, fun i a1 a2 a3 a4 a5 a6 => by rw [mup_ne (by omega)]; exact h.2 i a1 a2 a3 a4 a5 a6⟩
theorem hw_b {L : Nat → Int} {n : Nat} (hn : n ≤ 6) (h : ∀ j, j < n → 1 ≤ L j ∧ L j ≤ 26) : 0 ≤ hw L n ∧ hw L n < 281474976710656 ∧ (n ≤ 5 → hw L n < 1099511627776) := by
  have := hw_rng n h
  rcases (by omega : n = 0 ∨ n = 1 ∨ n = 2 ∨ n = 3 ∨ n = 4 ∨ n = 5 ∨ n = 6) with rfl | rfl | rfl | rfl | rfl | rfl | rfl <;> omega
/-- the run of a word -/
theorem r_runL {F l s : Nat} {τ0 : mMem} {b : Nat → Int} (hl : l ≤ 1600) (h2 : τ0 86 2 = (l : Int)) (hb : ∀ j, j < l → τ0 87 j = b j ∧ 0 ≤ b j ∧ b j ≤ 255) {g : Int} : ∀ (d m fuel : Nat) (τ : mMem), d + (s + m) = l → d < fuel → FA τ τ0 → (∀ j, j < m → xLt b (s + j)) → τ 86 7 = hw (xLs b s) (min m 6) → τ 86 12 = (if g = -1 then (if 6 < m then ((s + 6 : Nat) : Int) else -1) else g) → -1 ≤ g ∧ g ≤ 2000 → ∃ (n : Nat) (τ' : mMem), g_X12_ahead_h204 F fuel ((s + m : Nat) : Int) 1 0 6 (m : Int) τ = some (0, τ') ∧ FA τ' τ0 ∧ m ≤ n ∧ s + n ≤ l ∧ (∀ j, j < n → xLt b (s + j)) ∧ (s + n = l ∨ ¬ xLt b (s + n)) ∧ τ' 86 7 = hw (xLs b s) (min n 6) ∧ τ' 86 12 = (if g = -1 then (if 6 < n then ((s + 6 : Nat) : Int) else -1) else g) ∧ τ' 86 5 = ((s + n : Nat) : Int) ∧ τ' 86 3 = τ 86 3 ∧ τ' 86 4 = τ 86 4 ∧ τ' 86 6 = τ 86 6 := by
  intro d
  induction d with
  | zero =>
    intro m fuel τ e1 e2 e3 e4 e5 e6 e7
    obtain ⟨f, rfl⟩ : ∃ f, fuel = f + 1 := ⟨fuel - 1, by omega⟩
    refine ⟨m, mup τ 86 5 ((s + m : Nat) : Int), ?_, e3.up (by decide), by omega, by omega, e4, Or.inl (by omega), by rw [mup_ne (by decide)]; exact e5, by rw [mup_ne (by decide)]; exact e6, mup_at rfl rfl, mup_ne (by decide), mup_ne (by decide), mup_ne (by decide)⟩
    unfold g_X12_ahead_h204 g_X12_ahead_b334
    rw [e3.2 2 (by decide) (by decide) (by decide) (by decide) (by decide) (by decide), h2]
    exact e_t (by rw [mw_id (by omega) (by omega), mw_id (by omega) (by omega)]; omega) (e_mem rfl)
  | succ d ih =>
    intro m fuel τ e1 e2 e3 e4 e5 e6 e7
    obtain ⟨f, rfl⟩ : ∃ f, fuel = f + 1 := ⟨fuel - 1, by omega⟩
    obtain ⟨b1, b2, b3⟩ := hb (s + m) (by omega)
    have r87 : τ 87 (s + m) = b (s + m) := by rw [e3.1 87 (by decide)]; exact b1
    have head : ∀ X, (if mw (mb (97 ≤ b (s + m) ∧ b (s + m) ≤ 122)) = 0 then (g_X12_ahead_b334 F ((s + m : Nat) : Int) τ) else (g_X12_ahead_b243 F (g_X12_ahead_h204 F f) ((s + m : Nat) : Int) 1 0 6 (m : Int) τ)) = X → g_X12_ahead_h204 F (f + 1) ((s + m : Nat) : Int) 1 0 6 (m : Int) τ = X := by
      intro X hX
      conv => lhs; unfold g_X12_ahead_h204
      rw [e3.2 2 (by decide) (by decide) (by decide) (by decide) (by decide) (by decide), h2, mwN (i := s + m) (by omega), r87]
      exact e_f (by rw [mw_id (by omega) (by omega), mw_id (by omega) (by omega)]; omega) (e_f (by decide) (e_t (mwR (by omega) (by decide)) (e_mob (r_let (by omega)) hX)))
    by_cases cl : xLt b (s + m)
    · -- one letter more
      obtain ⟨τ1, q1, q2, q3, q4, q5, q6, q7⟩ : ∃ τ1 : mMem, (g_X12_ahead_b243 F (g_X12_ahead_h204 F f) ((s + m : Nat) : Int) 1 0 6 (m : Int) τ = g_X12_ahead_h204 F f (((s + m : Nat) : Int) + 1) 1 0 6 ((m : Int) + 1) τ1) ∧ FA τ1 τ0 ∧ τ1 86 7 = hw (xLs b s) (min (m + 1) 6) ∧ τ1 86 12 = (if g = -1 then (if 6 < m + 1 then ((s + 6 : Nat) : Int) else -1) else g) ∧ τ1 86 3 = τ 86 3 ∧ τ1 86 4 = τ 86 4 ∧ τ1 86 6 = τ 86 6 := by
        have up12 : ∀ z : Int, ∃ τa : mMem, τa = (if m = 6 ∧ g = -1 then mup τ 86 12 ((s + 6 : Nat) : Int) else τ) := fun _ => ⟨_, rfl⟩
        obtain ⟨τa, ea⟩ := up12 0
        have fa : FA τa τ0 := by
          rw [ea]
          split
          · exact e3.up (by decide)
          · exact e3
        have a12 : τa 86 12 = (if g = -1 then (if 6 < m + 1 then ((s + 6 : Nat) : Int) else -1) else g) := by
          rw [ea]
          by_cases c6 : m = 6 ∧ g = -1
          · rw [if_pos c6, mup_at rfl rfl, if_pos c6.2, if_pos (by omega)]
          · rw [if_neg c6, e6]
            by_cases cg : g = -1
            · rw [if_pos cg, if_pos cg]
              by_cases c : 6 < m
              · rw [if_pos c, if_pos (by omega)]
              · rw [if_neg c, if_neg (by omega)]
            · rw [if_neg cg, if_neg cg]
        have ao : ∀ j, j ≠ 12 → τa 86 j = τ 86 j := fun j hj => by
          rw [ea]
          split
          · rw [mup_ne (by omega)]
          · rfl
        have st1 : ∀ X, g_X12_ahead_b263 F (g_X12_ahead_h204 F f) ((s + m : Nat) : Int) 1 0 6 (m : Int) τa = X → g_X12_ahead_b243 F (g_X12_ahead_h204 F f) ((s + m : Nat) : Int) 1 0 6 (m : Int) τ = X := by
          intro X hX
          unfold g_X12_ahead_b243
          by_cases c6 : m = 6
          · refine e_f (fun e => e (by rw [c6]; rfl)) ?_
            by_cases cg : g = -1
            · rw [ea, if_pos ⟨c6, cg⟩] at hX
              have e12 : τ 86 12 = -1 := by rw [e6, if_pos cg, if_neg (show ¬ 6 < m by omega)]
              rw [e12]
              refine e_f (fun e => e rfl) (e_mem ?_)
              rw [show s + m = s + 6 by omega] at hX ⊢
              exact hX
            · rw [ea, if_neg (fun q => cg q.2)] at hX
              rw [e6, if_neg cg]
              exact e_t (by rw [mw_id (by omega) (by omega), show mw (-1) = -1 by decide]; exact cg) hX
          · rw [ea, if_neg (fun q => c6 q.1)] at hX
            exact e_t (by rw [mw_id (by omega) (by omega), mw_id (by omega) (by omega)]; omega) hX
        by_cases c6 : m < 6
        · have hwb := hw_b (L := xLs b s) (n := m) (by omega) (fun j hj => by have := e4 j hj; show 1 ≤ b (s + j) - 96 ∧ b (s + j) - 96 ≤ 26; omega)
          have e5' : τa 86 7 = hw (xLs b s) m := by rw [ao 7 (by decide), e5, show min m 6 = m by omega]
          have nv : mlor (mlshl (hw (xLs b s) m) 8) (mw (b (s + m))) = hw (xLs b s) (m + 1) := by
            rw [mlshl_k 8 8 hwb.1 (by have := hwb.2.2 (by omega); omega) (by decide) (by decide), mw_id (by omega) (by omega), mlor_k 8 hwb.1 (by omega) (by have := hwb.2.2 (by omega); omega)]
            show _ = 256 * hw (xLs b s) m + (b (s + m) - 96 + 96)
            omega
          refine ⟨mup τa 86 7 (hw (xLs b s) (m + 1)), st1 _ ?_, fa.up (by decide), by rw [mup_at rfl rfl, show min (m + 1) 6 = m + 1 by omega], by rw [mup_ne (by decide)]; exact a12, by rw [mup_ne (by decide), ao 3 (by decide)], by rw [mup_ne (by decide), ao 4 (by decide)], by rw [mup_ne (by decide), ao 6 (by decide)]⟩
          unfold g_X12_ahead_b263 g_X12_ahead_b293 g_X12_ahead_b325
          rw [mwN (i := s + m) (by omega), fa.1 87 (by decide), b1, e5', nv]
          exact e_f (by rw [mw_id (by omega) (by omega), mw_id (by omega) (by omega)]; omega) (e_f (by decide) (e_t (mwR (by omega) (by decide)) (e_mem (e_f (by rw [mw_id (by omega) (by omega), mw_id (by omega) (by omega)]; omega) (e_t (by decide) rfl)))))
        · refine ⟨τa, st1 _ ?_, fa, by rw [ao 7 (by decide), e5, show min m 6 = 6 by omega, show min (m + 1) 6 = 6 by omega], a12, ao 3 (by decide), ao 4 (by decide), ao 6 (by decide)⟩
          unfold g_X12_ahead_b263 g_X12_ahead_b293 g_X12_ahead_b325
          exact e_t (by rw [mw_id (by omega) (by omega), mw_id (by omega) (by omega)]; omega) (e_t (by rw [mw_id (by omega) (by omega), mw_id (by omega) (by omega)]; omega) rfl)
      obtain ⟨n, τ', t1, t2, t3, t4, t5, t6, t7, t8, t9, t10, t11, t12⟩ := ih (m + 1) f τ1 (by omega) (by omega) q2 (fun j hj => by
        by_cases cj : j = m
        · rw [cj]; exact cl
        · exact e4 j (by omega)) q3 q4 e7
      refine ⟨n, τ', head _ ?_, t2, by omega, t4, t5, t6, t7, t8, t9, by rw [t10, q5], by rw [t11, q6], by rw [t12, q7]⟩
      rw [mb_t cl]
      refine e_f (by decide) (q1.trans ?_)
      rw [← t1, show ((s + (m + 1) : Nat) : Int) = ((s + m : Nat) : Int) + 1 by omega, show ((m + 1 : Nat) : Int) = (m : Int) + 1 by omega]
    · refine ⟨m, mup τ 86 5 ((s + m : Nat) : Int), head _ ?_, e3.up (by decide), by omega, by omega, e4, Or.inr cl, by rw [mup_ne (by decide)]; exact e5, by rw [mup_ne (by decide)]; exact e6, mup_at rfl rfl, mup_ne (by decide), mup_ne (by decide), mup_ne (by decide)⟩
      rw [mb_f cl]
      unfold g_X12_ahead_b334
      exact e_t (by decide) (e_mem rfl)
