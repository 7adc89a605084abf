/-! THE LAW: its loop (written by genloop.py) -/
theorem l_and (z : Int) : 0 ≤ mand z 31 ∧ mand z 31 ≤ 31 := by
  have h : (mI z &&& mI 31).toBitVec.toNat ≤ 31 := by
    rw [Int32.toBitVec_and, BitVec.toNat_and]
    exact Nat.le_trans Nat.and_le_right (by decide)
  have e : (mI z &&& mI 31).toInt = ((mI z &&& mI 31).toBitVec.toNat : Int) := BitVec.toInt_eq_toNat_of_lt (by omega)
  unfold mand
  omega
section LO
variable {p : Program} {l : Launch} {e : Env} {s : State} {m : MethodId} {below : List Frame} {meth : Method} {c : Code} {cells slots : Nat} {D : va_G} {cy : Nat → ClassId} {b L : Nat} {xs : Nat → Int32}
theorem law_loop (X : mCx p m c code 4 s #[Value.ref b] RL meth D cy ret) (hX : va_X b L xs s s.heap) (hbl : b < s.heap.size) (hL : L ≤ 3072) (hc0 : cells ≤ 600000 ∧ slots ≤ 7302250) : ∀ (d i : Nat) (N : Int) (σ : mMem) (H : Heap) (locs : List Loc) (ls : Array Slot) (pp ss : Nat), L ≤ i + d → (i : Int) = 6 * N → i ≤ 3078 → mWd D cy (mAd s.heap.size) s.heap.size true mN σ s.heap H locs → Rel σ pp ss N → Own σ → lv_has ls 4 (lLv b s.heap.size i) → W p l e room_1 s m #[Value.ref b] below meth c H locs cells slots (lw_Z below #[Value.ref b] s) (F0 m 18 ls []) := by
  obtain ⟨hx, hb, hml, hown, hts⟩ := X.1
  have hbA : ¬ mA s.heap.size b := Nat.not_le.mpr hbl
  have fin : ∀ (H : Heap) (locs : List Loc) (ls : Array Slot) (σ : mMem), mWd D cy (mAd s.heap.size) s.heap.size true mN σ s.heap H locs → W p l e room_1 s m #[Value.ref b] below meth c H locs cells slots (lw_Z below #[Value.ref b] s) (F0 m 1068 ls []) := by
    intro H locs ls σ hw
    refine va_forget hw.2.2.1.2.2 ?_
    refine W.widen (k := 600000) (n := 7302250) hc0.1 hc0.2 ?_
    refine lv_iconst (v := 1) hx hb dL_law_1068 (by decide) ?_
    exact lw_ret hx hb X.2.2.2 X.2.2.1 dL_law_1069
  intro d
  induction d with
  | zero =>
    intro i N σ H locs ls pp ss e1 e2 e3 hw r hO hl
    refine lv_iload_n hx hb dL_law_18 rfl (lv_at hl 3 rfl) ?_
    refine lv_aload_n hx hb dL_law_19 rfl (lv_at hl 0 rfl) ?_
    refine va_slen hx hb hX hbl hbA hw.2.2.1 dL_law_20 ?_
    rw [mI_nat]
    refine lv_bipush (v := mI 6) hx hb dL_law_21 (by decide) ?_
    refine r_isub X dL_law_23 ?_
    refine lv_icmp_gt (tgt := 1068) hx hb dL_law_24 (by decide) (fun _ => fin H locs ls σ hw) (fun q => absurd (mI_lt.mpr (by rw [mw_id (by omega) (by omega), mw_id (by omega) (by omega)]; omega)) q)
  | succ d ih =>
    intro i N σ H locs ls pp ss e1 e2 e3 hw r hO hl
    refine lv_iload_n hx hb dL_law_18 rfl (lv_at hl 3 rfl) ?_
    refine lv_aload_n hx hb dL_law_19 rfl (lv_at hl 0 rfl) ?_
    refine va_slen hx hb hX hbl hbA hw.2.2.1 dL_law_20 ?_
    rw [mI_nat]
    refine lv_bipush (v := mI 6) hx hb dL_law_21 (by decide) ?_
    refine r_isub X dL_law_23 ?_
    refine lv_icmp_gt (tgt := 1068) hx hb dL_law_24 (by decide) (fun _ => fin H locs ls σ hw) (fun q => ?_)
    have hi : i + 6 ≤ L := by
      rcases Nat.lt_or_ge L (i + 6) with h | h
      · exact absurd (mI_lt.mpr (by rw [mw_id (by omega) (by omega), mw_id (by omega) (by omega)]; omega)) q
      · exact h
    have next : ∀ (σ' : mMem) (H1 : Heap) (locs1 : List Loc) (p' s' : Nat), mWd D cy (mAd s.heap.size) s.heap.size true mN σ' s.heap H1 locs1 → Rel σ' p' s' (N + 1) → Own σ' → W p l e room_1 s m #[Value.ref b] below meth c H1 locs1 cells slots (lw_Z below #[Value.ref b] s) (F0 m 1062 ls []) := by
      intro σ' H1 locs1 p' s' hw' r' o'
      refine lv_iinc (v := mI ((i + 6 : Nat) : Int)) (lv' := [(3, .int (mI ((i + 6 : Nat) : Int))), (0, .ref b), (1, .ref (mAd s.heap.size 0)), (2, .ref (mAd s.heap.size 86))]) hx hb dL_law_1062 hl (k := 3) rfl (by rw [show ((i + 6 : Nat) : Int) = (i : Int) + 6 by omega]; exact mI_add _ _) (by decide) rfl (fun ls hl => ?_)
      refine lv_goto (tgt := 18) hx hb dL_law_1065 (by decide) ?_
      exact ih (i + 6) (N + 1) σ' H1 locs1 ls p' s' (by omega) (by omega) (by omega) hw' r' o' (lv_sub hl [1, 2, 3, 0] rfl)
    have hN : 0 ≤ N ∧ N ≤ 10000 := by omega
    have hR0 : 2000 ≤ room_1.frames ∧ 80000 ≤ room_1.locals := ⟨Nat.le_of_ble_eq_true rfl, Nat.le_of_ble_eq_true rfl⟩
    have hRc : cells ≤ room_1.cells ∧ slots ≤ room_1.slots := hc0
    refine lv_aload_n hx hb dL_law_27 rfl (lv_at hl 0 rfl) ?_
    refine lv_iload_n hx hb dL_law_28 rfl (lv_at hl 3 rfl) ?_
    have h : 0 ≤ mw (i : Int) ∧ mw (i : Int) < (L : Int) := by rw [mw_id (by omega) (by omega)]; omega
    refine va_sld hx hb hX hbl hbA hw.2.2.1 (mI_in h).1 dL_law_29 ?_
    rw [← mI_of (xs (mI (i : Int)).toNatClampNeg)]
    generalize (xs (mI (i : Int)).toNatClampNeg).toInt = z
    refine lv_bipush (v := mI 31) hx hb dL_law_30 (by decide) ?_
    refine r_iand X dL_law_32 ?_
    have ht := l_and z
    have hm : mw (mand z 31) = mand z 31 := mw_id (by omega) (by omega)
    generalize mand z 31 = t at ht hm ⊢
    rcases (by omega : t = 0 ∨ t = 1 ∨ t = 2 ∨ t = 3 ∨ t = 4 ∨ t = 5 ∨ t = 6 ∨ t = 7 ∨ t = 8 ∨ t = 9 ∨ t = 10 ∨ t = 11 ∨ t = 12 ∨ t = 13 ∨ t = 14 ∨ t = 15 ∨ t = 16 ∨ t = 17 ∨ t = 18 ∨ t = 19 ∨ t = 20 ∨ t = 21 ∨ t = 22 ∨ t = 23 ∨ t = 24 ∨ t = 25 ∨ t = 26 ∨ t = 27 ∨ t = 28 ∨ t = 29 ∨ t = 30 ∨ t = 31) with h9 | h9 | h9 | h9 | h9 | h9 | h9 | h9 | h9 | h9 | h9 | h9 | h9 | h9 | h9 | h9 | h9 | h9 | h9 | h9 | h9 | h9 | h9 | h9 | h9 | h9 | h9 | h9 | h9 | h9 | h9 | h9
    · refine r_tin (k := 0) (off := 143) (tgt := 176) X dL_law_33 (hm.trans h9) (by decide) (by decide) rfl (by decide) ?_
      exact lc_0 X hX hbl hbA hL hw hl hi r hO hN hR0 hRc next
    · refine r_tin (k := 1) (off := 206) (tgt := 239) X dL_law_33 (hm.trans h9) (by decide) (by decide) rfl (by decide) ?_
      exact lc_1 X hX hbl hbA hL hw hl hi r hO hN hR0 hRc next
    · refine r_tin (k := 2) (off := 229) (tgt := 262) X dL_law_33 (hm.trans h9) (by decide) (by decide) rfl (by decide) ?_
      exact lc_2 X hX hbl hbA hL hw hl hi r hO hN hR0 hRc next
    · refine r_tin (k := 3) (off := 242) (tgt := 275) X dL_law_33 (hm.trans h9) (by decide) (by decide) rfl (by decide) ?_
      exact lc_3 X hX hbl hbA hL hw hl hi r hO hN hR0 hRc next
    · refine r_tin (k := 4) (off := 265) (tgt := 298) X dL_law_33 (hm.trans h9) (by decide) (by decide) rfl (by decide) ?_
      exact lc_4 X hX hbl hbA hL hw hl hi r hO hN hR0 hRc next
    · refine r_tin (k := 5) (off := 288) (tgt := 321) X dL_law_33 (hm.trans h9) (by decide) (by decide) rfl (by decide) ?_
      exact lc_5 X hX hbl hbA hL hw hl hi r hO hN hR0 hRc next
    · refine r_tin (k := 6) (off := 321) (tgt := 354) X dL_law_33 (hm.trans h9) (by decide) (by decide) rfl (by decide) ?_
      exact lc_6 X hX hbl hbA hL hw hl hi r hO hN hR0 hRc next
    · refine r_tin (k := 7) (off := 364) (tgt := 397) X dL_law_33 (hm.trans h9) (by decide) (by decide) rfl (by decide) ?_
      exact lc_7 X hX hbl hbA hL hw hl hi r hO hN hR0 hRc next
    · refine r_tin (k := 8) (off := 397) (tgt := 430) X dL_law_33 (hm.trans h9) (by decide) (by decide) rfl (by decide) ?_
      exact lc_8 X hX hbl hbA hL hw hl hi r hO hN hR0 hRc next
    · refine r_tin (k := 9) (off := 430) (tgt := 463) X dL_law_33 (hm.trans h9) (by decide) (by decide) rfl (by decide) ?_
      exact lc_9 X hX hbl hbA hL hw hl hi r hO hN hR0 hRc next
    · refine r_tin (k := 10) (off := 473) (tgt := 506) X dL_law_33 (hm.trans h9) (by decide) (by decide) rfl (by decide) ?_
      exact lc_10 X hX hbl hbA hL hw hl hi r hO hN hR0 hRc next
    · refine r_tin (k := 11) (off := 496) (tgt := 529) X dL_law_33 (hm.trans h9) (by decide) (by decide) rfl (by decide) ?_
      exact lc_11 X hX hbl hbA hL hw hl hi r hO hN hR0 hRc next
    · refine r_tin (k := 12) (off := 529) (tgt := 562) X dL_law_33 (hm.trans h9) (by decide) (by decide) rfl (by decide) ?_
      exact lc_12 X hX hbl hbA hL hw hl hi r hO hN hR0 hRc next
    · refine r_tin (k := 13) (off := 542) (tgt := 575) X dL_law_33 (hm.trans h9) (by decide) (by decide) rfl (by decide) ?_
      exact lc_13 X hX hbl hbA hL hw hl hi r hO hN hR0 hRc next
    · refine r_tin (k := 14) (off := 585) (tgt := 618) X dL_law_33 (hm.trans h9) (by decide) (by decide) rfl (by decide) ?_
      exact lc_14 X hX hbl hbA hL hw hl hi r hO hN hR0 hRc next
    · refine r_tin (k := 15) (off := 628) (tgt := 661) X dL_law_33 (hm.trans h9) (by decide) (by decide) rfl (by decide) ?_
      exact lc_15 X hX hbl hbA hL hw hl hi r hO hN hR0 hRc next
    · refine r_tin (k := 16) (off := 651) (tgt := 684) X dL_law_33 (hm.trans h9) (by decide) (by decide) rfl (by decide) ?_
      exact lc_16 X hX hbl hbA hL hw hl hi r hO hN hR0 hRc next
    · refine r_tin (k := 17) (off := 674) (tgt := 707) X dL_law_33 (hm.trans h9) (by decide) (by decide) rfl (by decide) ?_
      exact lc_17 X hX hbl hbA hL hw hl hi r hO hN hR0 hRc next
    · refine r_tin (k := 18) (off := 697) (tgt := 730) X dL_law_33 (hm.trans h9) (by decide) (by decide) rfl (by decide) ?_
      exact lc_18 X hX hbl hbA hL hw hl hi r hO hN hR0 hRc next
    · refine r_tin (k := 19) (off := 710) (tgt := 743) X dL_law_33 (hm.trans h9) (by decide) (by decide) rfl (by decide) ?_
      exact lc_19 X hX hbl hbA hL hw hl hi r hO hN hR0 hRc next
    · refine r_tin (k := 20) (off := 743) (tgt := 776) X dL_law_33 (hm.trans h9) (by decide) (by decide) rfl (by decide) ?_
      exact lc_20 X hX hbl hbA hL hw hl hi r hO hN hR0 hRc next
    · refine r_tin (k := 21) (off := 766) (tgt := 799) X dL_law_33 (hm.trans h9) (by decide) (by decide) rfl (by decide) ?_
      exact lc_21 X hX hbl hbA hL hw hl hi r hO hN hR0 hRc next
    · refine r_tin (k := 22) (off := 789) (tgt := 822) X dL_law_33 (hm.trans h9) (by decide) (by decide) rfl (by decide) ?_
      exact lc_22 X hX hbl hbA hL hw hl hi r hO hN hR0 hRc next
    · refine r_tin (k := 23) (off := 822) (tgt := 855) X dL_law_33 (hm.trans h9) (by decide) (by decide) rfl (by decide) ?_
      exact lc_23 X hX hbl hbA hL hw hl hi r hO hN hR0 hRc next
    · refine r_tin (k := 24) (off := 865) (tgt := 898) X dL_law_33 (hm.trans h9) (by decide) (by decide) rfl (by decide) ?_
      exact lc_24 X hX hbl hbA hL hw hl hi r hO hN hR0 hRc next
    · refine r_tin (k := 25) (off := 888) (tgt := 921) X dL_law_33 (hm.trans h9) (by decide) (by decide) rfl (by decide) ?_
      exact lc_25 X hX hbl hbA hL hw hl hi r hO hN hR0 hRc next
    · refine r_tin (k := 26) (off := 901) (tgt := 934) X dL_law_33 (hm.trans h9) (by decide) (by decide) rfl (by decide) ?_
      exact lc_26 X hX hbl hbA hL hw hl hi r hO hN hR0 hRc next
    · refine r_tin (k := 27) (off := 924) (tgt := 957) X dL_law_33 (hm.trans h9) (by decide) (by decide) rfl (by decide) ?_
      exact lc_27 X hX hbl hbA hL hw hl hi r hO hN hR0 hRc next
    · refine r_tin (k := 28) (off := 957) (tgt := 990) X dL_law_33 (hm.trans h9) (by decide) (by decide) rfl (by decide) ?_
      exact lc_28 X hX hbl hbA hL hw hl hi r hO hN hR0 hRc next
    · refine r_tin (k := 29) (off := 970) (tgt := 1003) X dL_law_33 (hm.trans h9) (by decide) (by decide) rfl (by decide) ?_
      exact lc_29 X hX hbl hbA hL hw hl hi r hO hN hR0 hRc next
    · refine r_tin (k := 30) (off := 993) (tgt := 1026) X dL_law_33 (hm.trans h9) (by decide) (by decide) rfl (by decide) ?_
      exact lc_30 X hX hbl hbA hL hw hl hi r hO hN hR0 hRc next
    · refine r_tin (k := 31) (off := 1006) (tgt := 1039) X dL_law_33 (hm.trans h9) (by decide) (by decide) rfl (by decide) ?_
      exact lc_31 X hX hbl hbA hL hw hl hi r hO hN hR0 hRc next
end LO
