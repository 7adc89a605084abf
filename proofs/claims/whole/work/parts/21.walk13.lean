def g_X12_letter_b17 (F : Nat)  (σ : mMem) : mRs := some ((-1), σ)
set_option maxRecDepth 100000 in
set_option maxHeartbeats 4000000 in
theorem w_X12_letter_b17 {p : Program} {l : Launch} {e : Env} {s : State} {m : MethodId} {args : Array Value} {below : List Frame} {meth : Method} {c : Code} {D : va_G} {cy : Nat → ClassId} {ad : Nat → Nat} {bs : Nat} {F : Nat}  (X : mCx p m c cX12_letter 8 s args RX12 meth D cy (some .int))  {r : Int} {σ' : mMem}    {σ : mMem} {H : Heap} {locs : List Loc} {ls : Array Slot} (hw : mWd D cy ad bs true mN σ s.heap H locs) (hl : lv_has ls 8 [(0, .ref (ad 86))]) (hf : g_X12_letter_b17 F  σ = some (r, σ')) : mGi p l e 2 s m args below meth c D cy ad bs r σ' H locs (F0 m 17 ls []) := by
  obtain ⟨⟨hx, hb, -, -, -⟩, -⟩ := id X
  unfold g_X12_letter_b17 at hf
  refine lv_iconst (v := mI (-1)) hx hb dX12_letter_17 rfl ?_
  exact r_iret X hw dX12_letter_18 hf
def g_X12_letter_b91 (F : Nat)  (t0 : Int) (σ : mMem) : mRs := some (t0, σ)
set_option maxRecDepth 100000 in
set_option maxHeartbeats 4000000 in
theorem w_X12_letter_b91 {p : Program} {l : Launch} {e : Env} {s : State} {m : MethodId} {args : Array Value} {below : List Frame} {meth : Method} {c : Code} {D : va_G} {cy : Nat → ClassId} {ad : Nat → Nat} {bs : Nat} {F : Nat}  (X : mCx p m c cX12_letter 8 s args RX12 meth D cy (some .int))  {r : Int} {σ' : mMem}   {t0 : Int} {σ : mMem} {H : Heap} {locs : List Loc} {ls : Array Slot} (hw : mWd D cy ad bs true mN σ s.heap H locs) (hl : lv_has ls 8 [(0, .ref (ad 86))]) (hf : g_X12_letter_b91 F t0 σ = some (r, σ')) : mGi p l e 2 s m args below meth c D cy ad bs r σ' H locs (F0 m 91 ls [.int (mI t0)]) := by
  obtain ⟨⟨hx, hb, -, -, -⟩, -⟩ := id X
  unfold g_X12_letter_b91 at hf
  exact r_iret X hw dX12_letter_91 hf
def g_X12_letter_h40 (F : Nat)  : Nat → Int → Int → Int → Int → mMem → mRs
  | 0, _, _, _, _, _ => none
  | n + 1, x2, x3, x5, x6, σ => if mwl x6 ≤ mwl 0 then (if mw x2 < mw x5 then (g_X12_letter_b91 F (((mland (mlshr x3 (8 * ((x5 - 1) - x2))) 255) - 97) + 1) σ) else (g_X12_letter_b91 F 0 σ)) else (mlet (mlshr x6 8) (fun y206 => (g_X12_letter_h40 F n) x2 x3 (x5 + 1) y206 σ))
set_option maxRecDepth 100000 in
set_option maxHeartbeats 4000000 in
theorem w_X12_letter_h40 {p : Program} {l : Launch} {e : Env} {s : State} {m : MethodId} {args : Array Value} {below : List Frame} {meth : Method} {c : Code} {D : va_G} {cy : Nat → ClassId} {ad : Nat → Nat} {bs : Nat} {F : Nat}  (X : mCx p m c cX12_letter 8 s args RX12 meth D cy (some .int))  {r : Int} {σ' : mMem}   (n : Nat) : ∀ {x2 x3 x5 x6 : Int} {σ : mMem} {H : Heap} {locs : List Loc} {ls : Array Slot} (_ : mWd D cy ad bs true mN σ s.heap H locs) (_ : lv_has ls 8 [(0, .ref (ad 86)), (2, .int (mI x2)), (3, .long (mL x3)), (5, .int (mI x5)), (6, .long (mL x6))]) (_ : g_X12_letter_h40 F n x2 x3 x5 x6 σ = some (r, σ')), mGi p l e 2 s m args below meth c D cy ad bs r σ' H locs (F0 m 40 ls []) := by
  obtain ⟨⟨hx, hb, -, -, -⟩, -⟩ := id X
  induction n with
  | zero =>
    intro x2 x3 x5 x6 σ H locs ls hw hl hf
    unfold g_X12_letter_h40 at hf
    cases hf
  | succ n ih =>
    have hk40 : ∀ (x2 x3 x5 x6 : Int) (σ : mMem) (H : Heap) (locs : List Loc) (ls : Array Slot), mWd D cy ad bs true mN σ s.heap H locs → lv_has ls 8 [(0, .ref (ad 86)), (2, .int (mI x2)), (3, .long (mL x3)), (5, .int (mI x5)), (6, .long (mL x6))] → g_X12_letter_h40 F n x2 x3 x5 x6 σ = some (r, σ') → mGi p l e 2 s m args below meth c D cy ad bs r σ' H locs (F0 m 40 ls []) := fun x2 x3 x5 x6 σ H locs ls hw hl hf => ih hw hl hf
    intro x2 x3 x5 x6 σ H locs ls hw hl hf
    unfold g_X12_letter_h40 at hf
    refine lv_lload hx hb dX12_letter_40 (lv_at hl 4 rfl) ?_
    refine lv_lconst (v := mL 0) hx hb dX12_letter_42 (by decide) ?_
    refine r_lcmp_le (tgt := 60) X dX12_letter_43 dX12_letter_44 (by decide) hf (fun hc hf => ?_) (fun hc hf => ?_)
    · refine lv_iload_n hx hb dX12_letter_60 rfl (lv_at hl 1 rfl) ?_
      refine lv_iload hx hb dX12_letter_61 (lv_at hl 3 rfl) ?_
      refine r_icmp_lt (tgt := 70) X dX12_letter_63 (by decide) hf (fun hc hf => ?_) (fun hc hf => ?_)
      · refine lv_lload_n hx hb dX12_letter_70 rfl (lv_at hl 2 rfl) ?_
        refine lv_bipush (v := mI 8) hx hb dX12_letter_71 (by decide) ?_
        refine lv_iload hx hb dX12_letter_73 (lv_at hl 3 rfl) ?_
        refine lv_iconst (v := mI 1) hx hb dX12_letter_75 rfl ?_
        refine r_isub X dX12_letter_76 ?_
        refine lv_iload_n hx hb dX12_letter_77 rfl (lv_at hl 1 rfl) ?_
        refine r_isub X dX12_letter_78 ?_
        refine r_imul X dX12_letter_79 ?_
        refine r_lshr X dX12_letter_80 ?_
        refine r_ldc2 (z := 255) (by decide) X lc_X12_495 dX12_letter_81 ?_
        refine r_land X dX12_letter_84 ?_
        refine r_l2i X dX12_letter_85 ?_
        refine lv_bipush (v := mI 97) hx hb dX12_letter_86 (by decide) ?_
        refine r_isub X dX12_letter_88 ?_
        refine lv_iconst (v := mI 1) hx hb dX12_letter_89 rfl ?_
        refine r_iadd X dX12_letter_90 ?_
        exact w_X12_letter_b91 X hw (lv_sub hl [0] rfl) hf
      · refine lv_iconst (v := mI 0) hx hb dX12_letter_66 rfl ?_
        refine lv_goto (tgt := 91) hx hb dX12_letter_67 (by decide) ?_
        exact w_X12_letter_b91 X hw (lv_sub hl [0] rfl) hf
    · refine lv_iinc (v := mI (x5 + 1)) (lv' := [(5, .int (mI (x5 + 1))), (0, .ref (ad 86)), (2, .int (mI x2)), (3, .long (mL x3)), (6, .long (mL x6))]) hx hb dX12_letter_47 hl (k := 3) rfl (mI_add _ _) (by decide) rfl (fun ls hl => ?_)
      refine lv_lload hx hb dX12_letter_50 (lv_at hl 4 rfl) ?_
      refine lv_bipush (v := mI 8) hx hb dX12_letter_52 (by decide) ?_
      refine r_lshr X dX12_letter_54 ?_
      refine r_letl hf (fun y206 hf => ?_)
      refine lv_lstore (lv' := [(6, .long (mL y206)), (5, .int (mI (x5 + 1))), (0, .ref (ad 86)), (2, .int (mI x2)), (3, .long (mL x3))]) hx hb dX12_letter_55 hl (by decide) rfl (fun ls hl => ?_)
      refine lv_goto (tgt := 40) hx hb dX12_letter_57 (by decide) ?_
      exact hk40 x2 x3 (x5 + 1) y206 σ _ _ _ hw (lv_sub hl [2, 3, 4, 1, 0] rfl) hf
def g_X12_letter (F : Nat) (x1 x2 : Int) (σ : mMem) : mRs := mob (g_X12_isBox F x1 σ) (fun r1 σ2 => if mw r1 = 0 then (g_X12_letter_b17 F σ2) else (mob (g_X12_is F x2 0 5 σ2) (fun r3 σ4 => if ¬ mw r3 = 0 then (if 0 ≤ mw ((6 * (σ4 86 13)) + x1) ∧ mw ((6 * (σ4 86 13)) + x1) < (12 : Int) then mlet (σ4 102 (mw ((6 * (σ4 86 13)) + x1)).toNat) (fun y5 => g_X12_letter_h40 F F x2 y5 0 y5 σ4) else none) else (g_X12_letter_b17 F σ4))))
set_option maxRecDepth 100000 in
set_option maxHeartbeats 4000000 in
theorem c_X12_letter (l : Launch) (D : va_G) (cy : Nat → ClassId) (ad : Nat → Nat) (bs : Nat) (F : Nat)  (x1 x2 : Int) (σ : mMem) (r : Int) (σ' : mMem)  (hf : g_X12_letter F x1 x2 σ = some (r, σ')) : mCi l D cy ad bs yX12_letter cX12_letter 8 (some .int) 2 [.ref (ad 86), .int (mI x1), .int (mI x2)] σ r σ' := by
  refine mCi.of (lv := [(0, .ref (ad 86)), (1, .int (mI x1)), (2, .int (mI x2))]) km_X12_letter.2.2.2.2.2 (Nat.le_of_ble_eq_true rfl) rfl (fun p e s m args below meth c H locs ls X hw hl => ?_)
  obtain ⟨⟨hx, hb, -, -, -⟩, -⟩ := id X
  unfold g_X12_letter at hf
  refine lv_aload_n hx hb dX12_letter_0 rfl (lv_at hl 0 rfl) ?_
  refine lv_iload_n hx hb dX12_letter_1 rfl (lv_at hl 1 rfl) ?_
  refine r_cvi (rest := []) [.int (mI x1)] X hw (fun ra σa h => c_X12_isBox l D cy ad bs F x1 σ ra σa  h) sh_86 rfl (by decide) rfl km_X12_isBox kv_X12_isBox lm_X12_492 dX12_letter_2 hl.1 rfl rfl (Nat.le_of_ble_eq_true rfl) ⟨by decide, by decide⟩ ⟨Nat.zero_le _, Nat.zero_le _⟩ hf (fun r1 σ2 _ hf H locs hw => ?_)
  refine r_if_eq (tgt := 17) X dX12_letter_5 (by decide) hf (fun hc hf => ?_) (fun hc hf => ?_)
  · exact w_X12_letter_b17 X hw (lv_sub hl [0] rfl) hf
  · refine lv_iload_n hx hb dX12_letter_8 rfl (lv_at hl 2 rfl) ?_
    refine lv_iconst (v := mI 0) hx hb dX12_letter_9 rfl ?_
    refine lv_iconst (v := mI 5) hx hb dX12_letter_10 rfl ?_
    refine r_csi (rest := []) [.int (mI x2), .int (mI 0), .int (mI 5)] X hw (fun ra σa h => c_X12_is l D cy ad bs F x2 0 5 σ2 ra σa  h) km_X12_is ks_X12_is lm_X12_318 dX12_letter_11 hl.1 rfl rfl (Nat.le_of_ble_eq_true rfl) ⟨by decide, by decide⟩ ⟨Nat.zero_le _, Nat.zero_le _⟩ hf (fun r3 σ4 _ hf H locs hw => ?_)
    refine r_if_ne (tgt := 19) X dX12_letter_14 (by decide) hf (fun hc hf => ?_) (fun hc hf => ?_)
    · refine lv_aload_n hx hb dX12_letter_19 rfl (lv_at hl 0 rfl) ?_
      refine r_getr 102 X hw sh_86 fd_12_28 rfl rfl lf_X12_96 dX12_letter_20 ?_
      refine lv_bipush (v := mI 6) hx hb dX12_letter_23 (by decide) ?_
      refine lv_aload_n hx hb dX12_letter_25 rfl (lv_at hl 0 rfl) ?_
      refine r_geti X hw sh_86 fd_12_13 rfl lf_X12_51 dX12_letter_26 ?_
      refine r_imul X dX12_letter_29 ?_
      refine lv_iload_n hx hb dX12_letter_30 rfl (lv_at hl 1 rfl) ?_
      refine r_iadd X dX12_letter_31 ?_
      refine r_lald (12 : Int) rfl X hw sh_102 dX12_letter_32 hf (fun hf => ?_)
      refine r_letl hf (fun y5 hf => ?_)
      refine lv_lstore_n (lv' := [(3, .long (mL y5)), (0, .ref (ad 86)), (1, .int (mI x1)), (2, .int (mI x2))]) hx hb dX12_letter_33 rfl hl (by decide) rfl (fun ls hl => ?_)
      refine lv_iconst (v := mI 0) hx hb dX12_letter_34 rfl ?_
      refine lv_istore (lv' := [(5, .int (mI 0)), (3, .long (mL y5)), (0, .ref (ad 86)), (1, .int (mI x1)), (2, .int (mI x2))]) hx hb dX12_letter_35 hl (by decide) rfl (fun ls hl => ?_)
      refine lv_lload_n hx hb dX12_letter_37 rfl (lv_at hl 1 rfl) ?_
      refine lv_lstore (lv' := [(6, .long (mL y5)), (5, .int (mI 0)), (3, .long (mL y5)), (0, .ref (ad 86)), (1, .int (mI x1)), (2, .int (mI x2))]) hx hb dX12_letter_38 hl (by decide) rfl (fun ls hl => ?_)
      exact w_X12_letter_h40 X _ hw (lv_sub hl [3, 5, 2, 1, 0] rfl) hf
    · exact w_X12_letter_b17 X hw (lv_sub hl [0] rfl) hf
def g_X12_cell_b80 (F : Nat)  (t0 : Int) (σ : mMem) : mRs := some (t0, σ)
set_option maxRecDepth 100000 in
set_option maxHeartbeats 4000000 in
theorem w_X12_cell_b80 {p : Program} {l : Launch} {e : Env} {s : State} {m : MethodId} {args : Array Value} {below : List Frame} {meth : Method} {c : Code} {D : va_G} {cy : Nat → ClassId} {ad : Nat → Nat} {bs : Nat} {F : Nat}  (X : mCx p m c cX12_cell 5 s args RX12 meth D cy (some .int))  {r : Int} {σ' : mMem}   {t0 : Int} {σ : mMem} {H : Heap} {locs : List Loc} {ls : Array Slot} (hw : mWd D cy ad bs true mN σ s.heap H locs) (hl : lv_has ls 5 [(0, .ref (ad 86))]) (hf : g_X12_cell_b80 F t0 σ = some (r, σ')) : mGi p l e 3 s m args below meth c D cy ad bs r σ' H locs (F0 m 80 ls [.int (mI t0)]) := by
  obtain ⟨⟨hx, hb, -, -, -⟩, -⟩ := id X
  unfold g_X12_cell_b80 at hf
  exact r_iret X hw dX12_cell_80 hf
def g_X12_cell (F : Nat) (x1 x2 x3 : Int) (σ : mMem) : mRs := mob (g_X12_isOn F x1 x2 σ) (fun r1 σ2 => if ¬ mw r1 = 0 then (mlet ((9 * x2) + x1) (fun y3 => if ¬ mw x3 = 0 then (if ¬ mw x3 = mw 1 then (if ¬ mw x3 = mw 2 then (g_X12_cell_b80 F (-1) σ2) else (mob (g_X12_who F 0 y3 σ2) (fun r4 σ5 => g_X12_cell_b80 F r4 σ5))) else (mob (g_X12_isBlack F 0 y3 σ2) (fun r6 σ7 => if mw r6 = 0 then (g_X12_cell_b80 F 0 σ7) else (g_X12_cell_b80 F 1 σ7)))) else (if 0 ≤ mw ((81 * (σ2 86 13)) + y3) ∧ mw ((81 * (σ2 86 13)) + y3) < (162 : Int) then g_X12_cell_b80 F (σ2 90 (mw ((81 * (σ2 86 13)) + y3)).toNat) σ2 else none))) else (some ((-1), σ2)))
set_option maxRecDepth 100000 in
set_option maxHeartbeats 4000000 in
theorem c_X12_cell (l : Launch) (D : va_G) (cy : Nat → ClassId) (ad : Nat → Nat) (bs : Nat) (F : Nat)  (x1 x2 x3 : Int) (σ : mMem) (r : Int) (σ' : mMem)  (hf : g_X12_cell F x1 x2 x3 σ = some (r, σ')) : mCi l D cy ad bs yX12_cell cX12_cell 5 (some .int) 3 [.ref (ad 86), .int (mI x1), .int (mI x2), .int (mI x3)] σ r σ' := by
  refine mCi.of (lv := [(0, .ref (ad 86)), (1, .int (mI x1)), (2, .int (mI x2)), (3, .int (mI x3))]) km_X12_cell.2.2.2.2.2 (Nat.le_of_ble_eq_true rfl) rfl (fun p e s m args below meth c H locs ls X hw hl => ?_)
  obtain ⟨⟨hx, hb, -, -, -⟩, -⟩ := id X
  unfold g_X12_cell at hf
  refine lv_aload_n hx hb dX12_cell_0 rfl (lv_at hl 0 rfl) ?_
  refine lv_iload_n hx hb dX12_cell_1 rfl (lv_at hl 1 rfl) ?_
  refine lv_iload_n hx hb dX12_cell_2 rfl (lv_at hl 2 rfl) ?_
  refine r_cvi (rest := []) [.int (mI x1), .int (mI x2)] X hw (fun ra σa h => c_X12_isOn l D cy ad bs F x1 x2 σ ra σa  h) sh_86 rfl (by decide) rfl km_X12_isOn kv_X12_isOn lm_X12_446 dX12_cell_3 hl.1 rfl rfl (Nat.le_of_ble_eq_true rfl) ⟨by decide, by decide⟩ ⟨Nat.zero_le _, Nat.zero_le _⟩ hf (fun r1 σ2 _ hf H locs hw => ?_)
  refine r_if_ne (tgt := 11) X dX12_cell_6 (by decide) hf (fun hc hf => ?_) (fun hc hf => ?_)
  · refine lv_bipush (v := mI 9) hx hb dX12_cell_11 (by decide) ?_
    refine lv_iload_n hx hb dX12_cell_13 rfl (lv_at hl 2 rfl) ?_
    refine r_imul X dX12_cell_14 ?_
    refine lv_iload_n hx hb dX12_cell_15 rfl (lv_at hl 1 rfl) ?_
    refine r_iadd X dX12_cell_16 ?_
    refine r_leti hf (fun y3 hf => ?_)
    refine lv_istore (lv' := [(4, .int (mI y3)), (0, .ref (ad 86)), (1, .int (mI x1)), (2, .int (mI x2)), (3, .int (mI x3))]) hx hb dX12_cell_17 hl (by decide) rfl (fun ls hl => ?_)
    refine lv_iload_n hx hb dX12_cell_19 rfl (lv_at hl 4 rfl) ?_
    refine r_if_ne (tgt := 41) X dX12_cell_20 (by decide) hf (fun hc hf => ?_) (fun hc hf => ?_)
    · refine lv_iload_n hx hb dX12_cell_41 rfl (lv_at hl 4 rfl) ?_
      refine lv_iconst (v := mI 1) hx hb dX12_cell_42 rfl ?_
      refine r_icmp_ne (tgt := 64) X dX12_cell_43 (by decide) hf (fun hc hf => ?_) (fun hc hf => ?_)
      · refine lv_iload_n hx hb dX12_cell_64 rfl (lv_at hl 4 rfl) ?_
        refine lv_iconst (v := mI 2) hx hb dX12_cell_65 rfl ?_
        refine r_icmp_ne (tgt := 79) X dX12_cell_66 (by decide) hf (fun hc hf => ?_) (fun hc hf => ?_)
        · refine lv_iconst (v := mI (-1)) hx hb dX12_cell_79 rfl ?_
          exact w_X12_cell_b80 X hw (lv_sub hl [1] rfl) hf
        · refine lv_aload_n hx hb dX12_cell_69 rfl (lv_at hl 1 rfl) ?_
          refine lv_iconst (v := mI 0) hx hb dX12_cell_70 rfl ?_
          refine lv_iload hx hb dX12_cell_71 (lv_at hl 0 rfl) ?_
          refine r_cvi (rest := []) [.int (mI 0), .int (mI y3)] X hw (fun ra σa h => c_X12_who l D cy ad bs F 0 y3 σ2 ra σa  h) sh_86 rfl (by decide) rfl km_X12_who kv_X12_who lm_X12_477 dX12_cell_73 hl.1 rfl rfl (Nat.le_of_ble_eq_true rfl) ⟨by decide, by decide⟩ ⟨Nat.zero_le _, Nat.zero_le _⟩ hf (fun r4 σ5 _ hf H locs hw => ?_)
          refine lv_goto (tgt := 80) hx hb dX12_cell_76 (by decide) ?_
          exact w_X12_cell_b80 X hw (lv_sub hl [1] rfl) hf
      · refine lv_aload_n hx hb dX12_cell_46 rfl (lv_at hl 1 rfl) ?_
        refine lv_iconst (v := mI 0) hx hb dX12_cell_47 rfl ?_
        refine lv_iload hx hb dX12_cell_48 (lv_at hl 0 rfl) ?_
        refine r_cvi (rest := []) [.int (mI 0), .int (mI y3)] X hw (fun ra σa h => c_X12_isBlack l D cy ad bs F 0 y3 σ2 ra σa  h) sh_86 rfl (by decide) rfl km_X12_isBlack kv_X12_isBlack lm_X12_489 dX12_cell_50 hl.1 rfl rfl (Nat.le_of_ble_eq_true rfl) ⟨by decide, by decide⟩ ⟨Nat.zero_le _, Nat.zero_le _⟩ hf (fun r6 σ7 _ hf H locs hw => ?_)
        refine r_if_eq (tgt := 60) X dX12_cell_53 (by decide) hf (fun hc hf => ?_) (fun hc hf => ?_)
        · refine lv_iconst (v := mI 0) hx hb dX12_cell_60 rfl ?_
          refine lv_goto (tgt := 80) hx hb dX12_cell_61 (by decide) ?_
          exact w_X12_cell_b80 X hw (lv_sub hl [1] rfl) hf
        · refine lv_iconst (v := mI 1) hx hb dX12_cell_56 rfl ?_
          refine lv_goto (tgt := 80) hx hb dX12_cell_57 (by decide) ?_
          exact w_X12_cell_b80 X hw (lv_sub hl [1] rfl) hf
    · refine lv_aload_n hx hb dX12_cell_23 rfl (lv_at hl 1 rfl) ?_
      refine r_getr 90 X hw sh_86 fd_12_16 rfl rfl lf_X12_60 dX12_cell_24 ?_
      refine lv_bipush (v := mI 81) hx hb dX12_cell_27 (by decide) ?_
      refine lv_aload_n hx hb dX12_cell_29 rfl (lv_at hl 1 rfl) ?_
      refine r_geti X hw sh_86 fd_12_13 rfl lf_X12_51 dX12_cell_30 ?_
      refine r_imul X dX12_cell_33 ?_
      refine lv_iload hx hb dX12_cell_34 (lv_at hl 0 rfl) ?_
      refine r_iadd X dX12_cell_36 ?_
      refine r_iald (162 : Int) rfl X hw sh_90 dX12_cell_37 hf (fun hf => ?_)
      refine lv_goto (tgt := 80) hx hb dX12_cell_38 (by decide) ?_
      exact w_X12_cell_b80 X hw (lv_sub hl [1] rfl) hf
  · refine lv_iconst (v := mI (-1)) hx hb dX12_cell_9 rfl ?_
    exact r_iret X hw dX12_cell_10 hf
def g_X12_box (F : Nat) (x1 x2 : Int) (σ : mMem) : mRs := mob (g_X12_isBox F x1 σ) (fun r1 σ2 => if ¬ mw r1 = 0 then (if mw x2 = 0 then (if 0 ≤ mw x1 ∧ mw x1 < (132 : Int) then if mw 9 = 0 then none else (some ((mw (σ2 112 (mw x1).toNat)).tmod (mw 9), σ2)) else none) else (if mw x2 = 1 then (if 0 ≤ mw x1 ∧ mw x1 < (132 : Int) then if mw 9 = 0 then none else (some ((mw (σ2 112 (mw x1).toNat)).tdiv (mw 9), σ2)) else none) else (if mw x2 = 2 then (if 0 ≤ mw x1 ∧ mw x1 < (132 : Int) then some (σ2 113 (mw x1).toNat, σ2) else none) else (if mw x2 = 3 then (if 0 ≤ mw x1 ∧ mw x1 < (132 : Int) then some (σ2 114 (mw x1).toNat, σ2) else none) else (if mw x2 = 4 then (if 0 ≤ mw x1 ∧ mw x1 < (132 : Int) then some (σ2 115 (mw x1).toNat, σ2) else none) else (if mw x2 = 5 then (if 0 ≤ mw ((6 * (σ2 86 13)) + x1) ∧ mw ((6 * (σ2 86 13)) + x1) < (12 : Int) then some (σ2 94 (mw ((6 * (σ2 86 13)) + x1)).toNat, σ2) else none) else (if mw x2 = 6 then (if 0 ≤ mw ((6 * (σ2 86 13)) + x1) ∧ mw ((6 * (σ2 86 13)) + x1) < (12 : Int) then some (σ2 95 (mw ((6 * (σ2 86 13)) + x1)).toNat, σ2) else none) else (if mw x2 = 7 then (if 0 ≤ mw ((6 * (σ2 86 13)) + x1) ∧ mw ((6 * (σ2 86 13)) + x1) < (12 : Int) then some (σ2 96 (mw ((6 * (σ2 86 13)) + x1)).toNat, σ2) else none) else (some ((-1), σ2)))))))))) else (some ((-1), σ2)))
set_option maxRecDepth 100000 in
set_option maxHeartbeats 4000000 in
theorem c_X12_box (l : Launch) (D : va_G) (cy : Nat → ClassId) (ad : Nat → Nat) (bs : Nat) (F : Nat)  (x1 x2 : Int) (σ : mMem) (r : Int) (σ' : mMem)  (hf : g_X12_box F x1 x2 σ = some (r, σ')) : mCi l D cy ad bs yX12_box cX12_box 3 (some .int) 2 [.ref (ad 86), .int (mI x1), .int (mI x2)] σ r σ' := by
  refine mCi.of (lv := [(0, .ref (ad 86)), (1, .int (mI x1)), (2, .int (mI x2))]) km_X12_box.2.2.2.2.2 (Nat.le_of_ble_eq_true rfl) rfl (fun p e s m args below meth c H locs ls X hw hl => ?_)
  obtain ⟨⟨hx, hb, -, -, -⟩, -⟩ := id X
  unfold g_X12_box at hf
  refine lv_aload_n hx hb dX12_box_0 rfl (lv_at hl 0 rfl) ?_
  refine lv_iload_n hx hb dX12_box_1 rfl (lv_at hl 1 rfl) ?_
  refine r_cvi (rest := []) [.int (mI x1)] X hw (fun ra σa h => c_X12_isBox l D cy ad bs F x1 σ ra σa  h) sh_86 rfl (by decide) rfl km_X12_isBox kv_X12_isBox lm_X12_492 dX12_box_2 hl.1 rfl rfl (Nat.le_of_ble_eq_true rfl) ⟨by decide, by decide⟩ ⟨Nat.zero_le _, Nat.zero_le _⟩ hf (fun r1 σ2 _ hf H locs hw => ?_)
  refine r_if_ne (tgt := 10) X dX12_box_5 (by decide) hf (fun hc hf => ?_) (fun hc hf => ?_)
  · refine lv_iload_n hx hb dX12_box_10 rfl (lv_at hl 2 rfl) ?_
    refine r_case hf (fun hc0 hf => ?_) (fun hc0 hf => ?_)
    · refine r_tin (k := 0) (off := 45) (tgt := 56) X dX12_box_11 hc0 (by decide) (by decide) rfl (by decide) ?_
      refine lv_aload_n hx hb dX12_box_56 rfl (lv_at hl 0 rfl) ?_
      refine r_getr 112 X hw sh_86 fd_12_45 rfl rfl lf_X12_150 dX12_box_57 ?_
      refine lv_iload_n hx hb dX12_box_60 rfl (lv_at hl 1 rfl) ?_
      refine r_iald (132 : Int) rfl X hw sh_112 dX12_box_61 hf (fun hf => ?_)
      refine lv_bipush (v := mI 9) hx hb dX12_box_62 (by decide) ?_
      refine r_irem X dX12_box_64 hf (fun hf => ?_)
      exact r_iret X hw dX12_box_65 hf
    refine r_case hf (fun hc1 hf => ?_) (fun hc1 hf => ?_)
    · refine r_tin (k := 1) (off := 55) (tgt := 66) X dX12_box_11 hc1 (by decide) (by decide) rfl (by decide) ?_
      refine lv_aload_n hx hb dX12_box_66 rfl (lv_at hl 0 rfl) ?_
      refine r_getr 112 X hw sh_86 fd_12_45 rfl rfl lf_X12_150 dX12_box_67 ?_
      refine lv_iload_n hx hb dX12_box_70 rfl (lv_at hl 1 rfl) ?_
      refine r_iald (132 : Int) rfl X hw sh_112 dX12_box_71 hf (fun hf => ?_)
      refine lv_bipush (v := mI 9) hx hb dX12_box_72 (by decide) ?_
      refine r_idiv X dX12_box_74 hf (fun hf => ?_)
      exact r_iret X hw dX12_box_75 hf
    refine r_case hf (fun hc2 hf => ?_) (fun hc2 hf => ?_)
    · refine r_tin (k := 2) (off := 65) (tgt := 76) X dX12_box_11 hc2 (by decide) (by decide) rfl (by decide) ?_
      refine lv_aload_n hx hb dX12_box_76 rfl (lv_at hl 0 rfl) ?_
      refine r_getr 113 X hw sh_86 fd_12_46 rfl rfl lf_X12_153 dX12_box_77 ?_
      refine lv_iload_n hx hb dX12_box_80 rfl (lv_at hl 1 rfl) ?_
      refine r_iald (132 : Int) rfl X hw sh_113 dX12_box_81 hf (fun hf => ?_)
      exact r_iret X hw dX12_box_82 hf
    refine r_case hf (fun hc3 hf => ?_) (fun hc3 hf => ?_)
    · refine r_tin (k := 3) (off := 72) (tgt := 83) X dX12_box_11 hc3 (by decide) (by decide) rfl (by decide) ?_
      refine lv_aload_n hx hb dX12_box_83 rfl (lv_at hl 0 rfl) ?_
      refine r_getr 114 X hw sh_86 fd_12_47 rfl rfl lf_X12_156 dX12_box_84 ?_
      refine lv_iload_n hx hb dX12_box_87 rfl (lv_at hl 1 rfl) ?_
      refine r_iald (132 : Int) rfl X hw sh_114 dX12_box_88 hf (fun hf => ?_)
      exact r_iret X hw dX12_box_89 hf
    refine r_case hf (fun hc4 hf => ?_) (fun hc4 hf => ?_)
    · refine r_tin (k := 4) (off := 79) (tgt := 90) X dX12_box_11 hc4 (by decide) (by decide) rfl (by decide) ?_
      refine lv_aload_n hx hb dX12_box_90 rfl (lv_at hl 0 rfl) ?_
      refine r_getr 115 X hw sh_86 fd_12_48 rfl rfl lf_X12_159 dX12_box_91 ?_
      refine lv_iload_n hx hb dX12_box_94 rfl (lv_at hl 1 rfl) ?_
      refine r_iald (132 : Int) rfl X hw sh_115 dX12_box_95 hf (fun hf => ?_)
      exact r_iret X hw dX12_box_96 hf
    refine r_case hf (fun hc5 hf => ?_) (fun hc5 hf => ?_)
    · refine r_tin (k := 5) (off := 86) (tgt := 97) X dX12_box_11 hc5 (by decide) (by decide) rfl (by decide) ?_
      refine lv_aload_n hx hb dX12_box_97 rfl (lv_at hl 0 rfl) ?_
      refine r_getr 94 X hw sh_86 fd_12_20 rfl rfl lf_X12_72 dX12_box_98 ?_
      refine lv_bipush (v := mI 6) hx hb dX12_box_101 (by decide) ?_
      refine lv_aload_n hx hb dX12_box_103 rfl (lv_at hl 0 rfl) ?_
      refine r_geti X hw sh_86 fd_12_13 rfl lf_X12_51 dX12_box_104 ?_
      refine r_imul X dX12_box_107 ?_
      refine lv_iload_n hx hb dX12_box_108 rfl (lv_at hl 1 rfl) ?_
      refine r_iadd X dX12_box_109 ?_
      refine r_iald (12 : Int) rfl X hw sh_94 dX12_box_110 hf (fun hf => ?_)
      exact r_iret X hw dX12_box_111 hf
    refine r_case hf (fun hc6 hf => ?_) (fun hc6 hf => ?_)
    · refine r_tin (k := 6) (off := 101) (tgt := 112) X dX12_box_11 hc6 (by decide) (by decide) rfl (by decide) ?_
      refine lv_aload_n hx hb dX12_box_112 rfl (lv_at hl 0 rfl) ?_
      refine r_getr 95 X hw sh_86 fd_12_21 rfl rfl lf_X12_75 dX12_box_113 ?_
      refine lv_bipush (v := mI 6) hx hb dX12_box_116 (by decide) ?_
      refine lv_aload_n hx hb dX12_box_118 rfl (lv_at hl 0 rfl) ?_
      refine r_geti X hw sh_86 fd_12_13 rfl lf_X12_51 dX12_box_119 ?_
      refine r_imul X dX12_box_122 ?_
      refine lv_iload_n hx hb dX12_box_123 rfl (lv_at hl 1 rfl) ?_
      refine r_iadd X dX12_box_124 ?_
      refine r_iald (12 : Int) rfl X hw sh_95 dX12_box_125 hf (fun hf => ?_)
      exact r_iret X hw dX12_box_126 hf
    refine r_case hf (fun hc7 hf => ?_) (fun hc7 hf => ?_)
    · refine r_tin (k := 7) (off := 116) (tgt := 127) X dX12_box_11 hc7 (by decide) (by decide) rfl (by decide) ?_
      refine lv_aload_n hx hb dX12_box_127 rfl (lv_at hl 0 rfl) ?_
      refine r_getr 96 X hw sh_86 fd_12_22 rfl rfl lf_X12_78 dX12_box_128 ?_
      refine lv_bipush (v := mI 6) hx hb dX12_box_131 (by decide) ?_
      refine lv_aload_n hx hb dX12_box_133 rfl (lv_at hl 0 rfl) ?_
      refine r_geti X hw sh_86 fd_12_13 rfl lf_X12_51 dX12_box_134 ?_
      refine r_imul X dX12_box_137 ?_
      refine lv_iload_n hx hb dX12_box_138 rfl (lv_at hl 1 rfl) ?_
      refine r_iadd X dX12_box_139 ?_
      refine r_iald (12 : Int) rfl X hw sh_96 dX12_box_140 hf (fun hf => ?_)
      exact r_iret X hw dX12_box_141 hf
    refine r_tout (tgt := 142) X dX12_box_11 (by omega) (by decide) ?_
    refine lv_iconst (v := mI (-1)) hx hb dX12_box_142 rfl ?_
    exact r_iret X hw dX12_box_143 hf
  · refine lv_iconst (v := mI (-1)) hx hb dX12_box_8 rfl ?_
    exact r_iret X hw dX12_box_9 hf
def g_X12_sees_b28 (F : Nat)  (t0 : Int) (σ : mMem) : mRs := some (t0, σ)
set_option maxRecDepth 100000 in
set_option maxHeartbeats 4000000 in
theorem w_X12_sees_b28 {p : Program} {l : Launch} {e : Env} {s : State} {m : MethodId} {args : Array Value} {below : List Frame} {meth : Method} {c : Code} {D : va_G} {cy : Nat → ClassId} {ad : Nat → Nat} {bs : Nat} {F : Nat}  (X : mCx p m c cX12_sees 3 s args RX12 meth D cy (some .int))  {r : Int} {σ' : mMem}   {t0 : Int} {σ : mMem} {H : Heap} {locs : List Loc} {ls : Array Slot} (hw : mWd D cy ad bs true mN σ s.heap H locs) (hl : lv_has ls 3 [(0, .ref (ad 86))]) (hf : g_X12_sees_b28 F t0 σ = some (r, σ')) : mGi p l e 5 s m args below meth c D cy ad bs r σ' H locs (F0 m 28 ls [.int (mI t0)]) := by
  obtain ⟨⟨hx, hb, -, -, -⟩, -⟩ := id X
  unfold g_X12_sees_b28 at hf
  exact r_iret X hw dX12_sees_28 hf
def g_X12_sees_b27 (F : Nat)  (σ : mMem) : mRs := g_X12_sees_b28 F (-1) σ
set_option maxRecDepth 100000 in
set_option maxHeartbeats 4000000 in
theorem w_X12_sees_b27 {p : Program} {l : Launch} {e : Env} {s : State} {m : MethodId} {args : Array Value} {below : List Frame} {meth : Method} {c : Code} {D : va_G} {cy : Nat → ClassId} {ad : Nat → Nat} {bs : Nat} {F : Nat}  (X : mCx p m c cX12_sees 3 s args RX12 meth D cy (some .int))  {r : Int} {σ' : mMem}    {σ : mMem} {H : Heap} {locs : List Loc} {ls : Array Slot} (hw : mWd D cy ad bs true mN σ s.heap H locs) (hl : lv_has ls 3 [(0, .ref (ad 86))]) (hf : g_X12_sees_b27 F  σ = some (r, σ')) : mGi p l e 5 s m args below meth c D cy ad bs r σ' H locs (F0 m 27 ls []) := by
  obtain ⟨⟨hx, hb, -, -, -⟩, -⟩ := id X
  unfold g_X12_sees_b27 at hf
  refine lv_iconst (v := mI (-1)) hx hb dX12_sees_27 rfl ?_
  exact w_X12_sees_b28 X hw (lv_sub hl [0] rfl) hf
def g_X12_sees (F : Nat) (x1 x2 : Int) (σ : mMem) : mRs := mob (g_X12_isBox F x1 σ) (fun r1 σ2 => if mw r1 = 0 then (g_X12_sees_b27 F σ2) else (mob (g_X12_is F x2 0 2 σ2) (fun r3 σ4 => if mw r3 = 0 then (g_X12_sees_b27 F σ4) else (mob (g_X12_eye F 0 x1 x2 σ4) (fun r5 σ6 => g_X12_sees_b28 F r5 σ6)))))
set_option maxRecDepth 100000 in
set_option maxHeartbeats 4000000 in
theorem c_X12_sees (l : Launch) (D : va_G) (cy : Nat → ClassId) (ad : Nat → Nat) (bs : Nat) (F : Nat)  (x1 x2 : Int) (σ : mMem) (r : Int) (σ' : mMem)  (hf : g_X12_sees F x1 x2 σ = some (r, σ')) : mCi l D cy ad bs yX12_sees cX12_sees 3 (some .int) 5 [.ref (ad 86), .int (mI x1), .int (mI x2)] σ r σ' := by
  refine mCi.of (lv := [(0, .ref (ad 86)), (1, .int (mI x1)), (2, .int (mI x2))]) km_X12_sees.2.2.2.2.2 (Nat.le_of_ble_eq_true rfl) rfl (fun p e s m args below meth c H locs ls X hw hl => ?_)
  obtain ⟨⟨hx, hb, -, -, -⟩, -⟩ := id X
  unfold g_X12_sees at hf
  refine lv_aload_n hx hb dX12_sees_0 rfl (lv_at hl 0 rfl) ?_
  refine lv_iload_n hx hb dX12_sees_1 rfl (lv_at hl 1 rfl) ?_
  refine r_cvi (rest := []) [.int (mI x1)] X hw (fun ra σa h => c_X12_isBox l D cy ad bs F x1 σ ra σa  h) sh_86 rfl (by decide) rfl km_X12_isBox kv_X12_isBox lm_X12_492 dX12_sees_2 hl.1 rfl rfl (Nat.le_of_ble_eq_true rfl) ⟨by decide, by decide⟩ ⟨Nat.zero_le _, Nat.zero_le _⟩ hf (fun r1 σ2 _ hf H locs hw => ?_)
  refine r_if_eq (tgt := 27) X dX12_sees_5 (by decide) hf (fun hc hf => ?_) (fun hc hf => ?_)
  · exact w_X12_sees_b27 X hw (lv_sub hl [0] rfl) hf
  · refine lv_iload_n hx hb dX12_sees_8 rfl (lv_at hl 2 rfl) ?_
    refine lv_iconst (v := mI 0) hx hb dX12_sees_9 rfl ?_
    refine lv_iconst (v := mI 2) hx hb dX12_sees_10 rfl ?_
    refine r_csi (rest := []) [.int (mI x2), .int (mI 0), .int (mI 2)] X hw (fun ra σa h => c_X12_is l D cy ad bs F x2 0 2 σ2 ra σa  h) km_X12_is ks_X12_is lm_X12_318 dX12_sees_11 hl.1 rfl rfl (Nat.le_of_ble_eq_true rfl) ⟨by decide, by decide⟩ ⟨Nat.zero_le _, Nat.zero_le _⟩ hf (fun r3 σ4 _ hf H locs hw => ?_)
    refine r_if_eq (tgt := 27) X dX12_sees_14 (by decide) hf (fun hc hf => ?_) (fun hc hf => ?_)
    · exact w_X12_sees_b27 X hw (lv_sub hl [0] rfl) hf
    · refine lv_aload_n hx hb dX12_sees_17 rfl (lv_at hl 0 rfl) ?_
      refine lv_iconst (v := mI 0) hx hb dX12_sees_18 rfl ?_
      refine lv_iload_n hx hb dX12_sees_19 rfl (lv_at hl 1 rfl) ?_
      refine lv_iload_n hx hb dX12_sees_20 rfl (lv_at hl 2 rfl) ?_
      refine r_cvi (rest := []) [.int (mI 0), .int (mI x1), .int (mI x2)] X hw (fun ra σa h => c_X12_eye l D cy ad bs F 0 x1 x2 σ4 ra σa  h) sh_86 rfl (by decide) rfl km_X12_eye kv_X12_eye lm_X12_463 dX12_sees_21 hl.1 rfl rfl (Nat.le_of_ble_eq_true rfl) ⟨by decide, by decide⟩ ⟨Nat.zero_le _, Nat.zero_le _⟩ hf (fun r5 σ6 _ hf H locs hw => ?_)
      refine lv_goto (tgt := 28) hx hb dX12_sees_24 (by decide) ?_
      exact w_X12_sees_b28 X hw (lv_sub hl [0] rfl) hf
def g_X12_isAhead_b28 (F : Nat)  (t0 : Int) (σ : mMem) : mRs := if mw t0 = 0 ∨ mw t0 = 1 then some (t0, σ) else none
set_option maxRecDepth 100000 in
set_option maxHeartbeats 4000000 in
theorem w_X12_isAhead_b28 {p : Program} {l : Launch} {e : Env} {s : State} {m : MethodId} {args : Array Value} {below : List Frame} {meth : Method} {c : Code} {D : va_G} {cy : Nat → ClassId} {ad : Nat → Nat} {bs : Nat} {F : Nat}  (X : mCx p m c cX12_isAhead 4 s args RX12 meth D cy (some .boolean))  {r : Int} {σ' : mMem}   {t0 : Int} {σ : mMem} {H : Heap} {locs : List Loc} {ls : Array Slot} (hw : mWd D cy ad bs true mN σ s.heap H locs) (hl : lv_has ls 4 [(0, .ref (ad 86))]) (hf : g_X12_isAhead_b28 F t0 σ = some (r, σ')) : mGi p l e 2 s m args below meth c D cy ad bs r σ' H locs (F0 m 28 ls [.int (mI t0)]) := by
  obtain ⟨⟨hx, hb, -, -, -⟩, -⟩ := id X
  unfold g_X12_isAhead_b28 at hf
  exact r_zret X hw dX12_isAhead_28 hf
def g_X12_isAhead_b27 (F : Nat)  (σ : mMem) : mRs := g_X12_isAhead_b28 F 0 σ
set_option maxRecDepth 100000 in
set_option maxHeartbeats 4000000 in
theorem w_X12_isAhead_b27 {p : Program} {l : Launch} {e : Env} {s : State} {m : MethodId} {args : Array Value} {below : List Frame} {meth : Method} {c : Code} {D : va_G} {cy : Nat → ClassId} {ad : Nat → Nat} {bs : Nat} {F : Nat}  (X : mCx p m c cX12_isAhead 4 s args RX12 meth D cy (some .boolean))  {r : Int} {σ' : mMem}    {σ : mMem} {H : Heap} {locs : List Loc} {ls : Array Slot} (hw : mWd D cy ad bs true mN σ s.heap H locs) (hl : lv_has ls 4 [(0, .ref (ad 86))]) (hf : g_X12_isAhead_b27 F  σ = some (r, σ')) : mGi p l e 2 s m args below meth c D cy ad bs r σ' H locs (F0 m 27 ls []) := by
  obtain ⟨⟨hx, hb, -, -, -⟩, -⟩ := id X
  unfold g_X12_isAhead_b27 at hf
  refine lv_iconst (v := mI 0) hx hb dX12_isAhead_27 rfl ?_
  exact w_X12_isAhead_b28 X hw (lv_sub hl [0] rfl) hf
def g_X12_isAhead (F : Nat) (x1 x2 x3 : Int) (σ : mMem) : mRs := mob (g_X12_is F x1 x2 x3 σ) (fun r1 σ2 => if mw r1 = 0 then (g_X12_isAhead_b27 F σ2) else (if 0 ≤ mw 0 ∧ mw 0 < (22 : Int) then if mw (999 - x1) < mw (σ2 110 (mw 0).toNat) then (g_X12_isAhead_b27 F σ2) else (g_X12_isAhead_b28 F 1 σ2) else none))
set_option maxRecDepth 100000 in
set_option maxHeartbeats 4000000 in
theorem c_X12_isAhead (l : Launch) (D : va_G) (cy : Nat → ClassId) (ad : Nat → Nat) (bs : Nat) (F : Nat)  (x1 x2 x3 : Int) (σ : mMem) (r : Int) (σ' : mMem)  (hf : g_X12_isAhead F x1 x2 x3 σ = some (r, σ')) : mCi l D cy ad bs yX12_isAhead cX12_isAhead 4 (some .boolean) 2 [.ref (ad 86), .int (mI x1), .int (mI x2), .int (mI x3)] σ r σ' := by
  refine mCi.of (lv := [(0, .ref (ad 86)), (1, .int (mI x1)), (2, .int (mI x2)), (3, .int (mI x3))]) km_X12_isAhead.2.2.2.2.2 (Nat.le_of_ble_eq_true rfl) rfl (fun p e s m args below meth c H locs ls X hw hl => ?_)
  obtain ⟨⟨hx, hb, -, -, -⟩, -⟩ := id X
  unfold g_X12_isAhead at hf
  refine lv_iload_n hx hb dX12_isAhead_0 rfl (lv_at hl 1 rfl) ?_
  refine lv_iload_n hx hb dX12_isAhead_1 rfl (lv_at hl 2 rfl) ?_
  refine lv_iload_n hx hb dX12_isAhead_2 rfl (lv_at hl 3 rfl) ?_
  refine r_csi (rest := []) [.int (mI x1), .int (mI x2), .int (mI x3)] X hw (fun ra σa h => c_X12_is l D cy ad bs F x1 x2 x3 σ ra σa  h) km_X12_is ks_X12_is lm_X12_318 dX12_isAhead_3 hl.1 rfl rfl (Nat.le_of_ble_eq_true rfl) ⟨by decide, by decide⟩ ⟨Nat.zero_le _, Nat.zero_le _⟩ hf (fun r1 σ2 _ hf H locs hw => ?_)
  refine r_if_eq (tgt := 27) X dX12_isAhead_6 (by decide) hf (fun hc hf => ?_) (fun hc hf => ?_)
  · exact w_X12_isAhead_b27 X hw (lv_sub hl [0] rfl) hf
  · refine lv_aload_n hx hb dX12_isAhead_9 rfl (lv_at hl 0 rfl) ?_
    refine r_getr 110 X hw sh_86 fd_12_43 rfl rfl lf_X12_144 dX12_isAhead_10 ?_
    refine lv_iconst (v := mI 0) hx hb dX12_isAhead_13 rfl ?_
    refine r_iald (22 : Int) rfl X hw sh_110 dX12_isAhead_14 hf (fun hf => ?_)
    refine lv_sipush (v := mI 999) hx hb dX12_isAhead_15 (by decide) ?_
    refine lv_iload_n hx hb dX12_isAhead_18 rfl (lv_at hl 1 rfl) ?_
    refine r_isub X dX12_isAhead_19 ?_
    refine r_icmp_gt (tgt := 27) X dX12_isAhead_20 (by decide) hf (fun hc hf => ?_) (fun hc hf => ?_)
    · exact w_X12_isAhead_b27 X hw (lv_sub hl [0] rfl) hf
    · refine lv_iconst (v := mI 1) hx hb dX12_isAhead_23 rfl ?_
      refine lv_goto (tgt := 28) hx hb dX12_isAhead_24 (by decide) ?_
      exact w_X12_isAhead_b28 X hw (lv_sub hl [0] rfl) hf
def g_X12_later_b28 (F : Nat)  (σ : mMem) : mRs := some ((-1), σ)
set_option maxRecDepth 100000 in
set_option maxHeartbeats 4000000 in
theorem w_X12_later_b28 {p : Program} {l : Launch} {e : Env} {s : State} {m : MethodId} {args : Array Value} {below : List Frame} {meth : Method} {c : Code} {D : va_G} {cy : Nat → ClassId} {ad : Nat → Nat} {bs : Nat} {F : Nat}  (X : mCx p m c cX12_later 6 s args RX12 meth D cy (some .int))  {r : Int} {σ' : mMem}    {σ : mMem} {H : Heap} {locs : List Loc} {ls : Array Slot} (hw : mWd D cy ad bs true mN σ s.heap H locs) (hl : lv_has ls 6 [(0, .ref (ad 86))]) (hf : g_X12_later_b28 F  σ = some (r, σ')) : mGi p l e 8 s m args below meth c D cy ad bs r σ' H locs (F0 m 28 ls []) := by
  obtain ⟨⟨hx, hb, -, -, -⟩, -⟩ := id X
  unfold g_X12_later_b28 at hf
  refine lv_iconst (v := mI (-1)) hx hb dX12_later_28 rfl ?_
  exact r_iret X hw dX12_later_29 hf
def g_X12_later_b147 (F : Nat)  (t0 : Int) (σ : mMem) : mRs := some (t0, σ)
set_option maxRecDepth 100000 in
set_option maxHeartbeats 4000000 in
theorem w_X12_later_b147 {p : Program} {l : Launch} {e : Env} {s : State} {m : MethodId} {args : Array Value} {below : List Frame} {meth : Method} {c : Code} {D : va_G} {cy : Nat → ClassId} {ad : Nat → Nat} {bs : Nat} {F : Nat}  (X : mCx p m c cX12_later 6 s args RX12 meth D cy (some .int))  {r : Int} {σ' : mMem}   {t0 : Int} {σ : mMem} {H : Heap} {locs : List Loc} {ls : Array Slot} (hw : mWd D cy ad bs true mN σ s.heap H locs) (hl : lv_has ls 6 [(0, .ref (ad 86))]) (hf : g_X12_later_b147 F t0 σ = some (r, σ')) : mGi p l e 8 s m args below meth c D cy ad bs r σ' H locs (F0 m 147 ls [.int (mI t0)]) := by
  obtain ⟨⟨hx, hb, -, -, -⟩, -⟩ := id X
  unfold g_X12_later_b147 at hf
  exact r_iret X hw dX12_later_147 hf
def g_X12_later_h42 (F : Nat)  : Nat → Int → Int → Int → Int → Int → mMem → mRs
  | 0, _, _, _, _, _, _ => none
  | n + 1, x1, x2, x3, x4, x5, σ => if mw x2 ≤ mw x5 then (mlet (6 + x1) (fun y209 => if ¬ mw x3 = 0 then (if ¬ mw x3 = mw 1 then (if ¬ mw x3 = mw 2 then (if ¬ mw x3 = mw 3 then (g_X12_later_b147 F x4 σ) else (if 0 ≤ mw y209 ∧ mw y209 < (132 : Int) then g_X12_later_b147 F (σ 115 (mw y209).toNat) σ else none)) else (if 0 ≤ mw y209 ∧ mw y209 < (132 : Int) then g_X12_later_b147 F (σ 113 (mw y209).toNat) σ else none)) else (if 0 ≤ mw y209 ∧ mw y209 < (132 : Int) then if mw 9 = 0 then none else (g_X12_later_b147 F ((mw (σ 112 (mw y209).toNat)).tdiv (mw 9)) σ) else none)) else (if 0 ≤ mw y209 ∧ mw y209 < (132 : Int) then if mw 9 = 0 then none else (g_X12_later_b147 F ((mw (σ 112 (mw y209).toNat)).tmod (mw 9)) σ) else none))) else (mob (g_X12_passes F 1 x5 σ) (fun r210 σ211 => mlet (x4 + (mand (mshr (σ211 86 64) x1) 1)) (fun y212 => (g_X12_later_h42 F n) x1 x2 x3 y212 (x5 + 1) σ211)))
set_option maxRecDepth 100000 in
set_option maxHeartbeats 4000000 in
theorem w_X12_later_h42 {p : Program} {l : Launch} {e : Env} {s : State} {m : MethodId} {args : Array Value} {below : List Frame} {meth : Method} {c : Code} {D : va_G} {cy : Nat → ClassId} {ad : Nat → Nat} {bs : Nat} {F : Nat}  (X : mCx p m c cX12_later 6 s args RX12 meth D cy (some .int))  {r : Int} {σ' : mMem}   (n : Nat) : ∀ {x1 x2 x3 x4 x5 : Int} {σ : mMem} {H : Heap} {locs : List Loc} {ls : Array Slot} (_ : mWd D cy ad bs true mN σ s.heap H locs) (_ : lv_has ls 6 [(0, .ref (ad 86)), (1, .int (mI x1)), (2, .int (mI x2)), (3, .int (mI x3)), (4, .int (mI x4)), (5, .int (mI x5))]) (_ : g_X12_later_h42 F n x1 x2 x3 x4 x5 σ = some (r, σ')), mGi p l e 8 s m args below meth c D cy ad bs r σ' H locs (F0 m 42 ls []) := by
  obtain ⟨⟨hx, hb, -, -, -⟩, -⟩ := id X
  induction n with
  | zero =>
    intro x1 x2 x3 x4 x5 σ H locs ls hw hl hf
    unfold g_X12_later_h42 at hf
    cases hf
  | succ n ih =>
    have hk42 : ∀ (x1 x2 x3 x4 x5 : Int) (σ : mMem) (H : Heap) (locs : List Loc) (ls : Array Slot), mWd D cy ad bs true mN σ s.heap H locs → lv_has ls 6 [(0, .ref (ad 86)), (1, .int (mI x1)), (2, .int (mI x2)), (3, .int (mI x3)), (4, .int (mI x4)), (5, .int (mI x5))] → g_X12_later_h42 F n x1 x2 x3 x4 x5 σ = some (r, σ') → mGi p l e 8 s m args below meth c D cy ad bs r σ' H locs (F0 m 42 ls []) := fun x1 x2 x3 x4 x5 σ H locs ls hw hl hf => ih hw hl hf
    intro x1 x2 x3 x4 x5 σ H locs ls hw hl hf
    unfold g_X12_later_h42 at hf
    refine lv_iload hx hb dX12_later_42 (lv_at hl 5 rfl) ?_
    refine lv_iload_n hx hb dX12_later_44 rfl (lv_at hl 2 rfl) ?_
    refine r_icmp_ge (tgt := 74) X dX12_later_45 (by decide) hf (fun hc hf => ?_) (fun hc hf => ?_)
    · refine lv_bipush (v := mI 6) hx hb dX12_later_74 (by decide) ?_
      refine lv_iload_n hx hb dX12_later_76 rfl (lv_at hl 1 rfl) ?_
      refine r_iadd X dX12_later_77 ?_
      refine r_leti hf (fun y209 hf => ?_)
      refine lv_istore (lv' := [(5, .int (mI y209)), (0, .ref (ad 86)), (1, .int (mI x1)), (2, .int (mI x2)), (3, .int (mI x3)), (4, .int (mI x4))]) hx hb dX12_later_78 hl (by decide) rfl (fun ls hl => ?_)
      refine lv_iload_n hx hb dX12_later_80 rfl (lv_at hl 4 rfl) ?_
      refine r_if_ne (tgt := 97) X dX12_later_81 (by decide) hf (fun hc hf => ?_) (fun hc hf => ?_)
      · refine lv_iload_n hx hb dX12_later_97 rfl (lv_at hl 4 rfl) ?_
        refine lv_iconst (v := mI 1) hx hb dX12_later_98 rfl ?_
        refine r_icmp_ne (tgt := 115) X dX12_later_99 (by decide) hf (fun hc hf => ?_) (fun hc hf => ?_)
        · refine lv_iload_n hx hb dX12_later_115 rfl (lv_at hl 4 rfl) ?_
          refine lv_iconst (v := mI 2) hx hb dX12_later_116 rfl ?_
          refine r_icmp_ne (tgt := 130) X dX12_later_117 (by decide) hf (fun hc hf => ?_) (fun hc hf => ?_)
          · refine lv_iload_n hx hb dX12_later_130 rfl (lv_at hl 4 rfl) ?_
            refine lv_iconst (v := mI 3) hx hb dX12_later_131 rfl ?_
            refine r_icmp_ne (tgt := 145) X dX12_later_132 (by decide) hf (fun hc hf => ?_) (fun hc hf => ?_)
            · refine lv_iload hx hb dX12_later_145 (lv_at hl 5 rfl) ?_
              exact w_X12_later_b147 X hw (lv_sub hl [1] rfl) hf
            · refine lv_aload_n hx hb dX12_later_135 rfl (lv_at hl 1 rfl) ?_
              refine r_getr 115 X hw sh_86 fd_12_48 rfl rfl lf_X12_159 dX12_later_136 ?_
              refine lv_iload hx hb dX12_later_139 (lv_at hl 0 rfl) ?_
              refine r_iald (132 : Int) rfl X hw sh_115 dX12_later_141 hf (fun hf => ?_)
              refine lv_goto (tgt := 147) hx hb dX12_later_142 (by decide) ?_
              exact w_X12_later_b147 X hw (lv_sub hl [1] rfl) hf
          · refine lv_aload_n hx hb dX12_later_120 rfl (lv_at hl 1 rfl) ?_
            refine r_getr 113 X hw sh_86 fd_12_46 rfl rfl lf_X12_153 dX12_later_121 ?_
            refine lv_iload hx hb dX12_later_124 (lv_at hl 0 rfl) ?_
            refine r_iald (132 : Int) rfl X hw sh_113 dX12_later_126 hf (fun hf => ?_)
            refine lv_goto (tgt := 147) hx hb dX12_later_127 (by decide) ?_
            exact w_X12_later_b147 X hw (lv_sub hl [1] rfl) hf
        · refine lv_aload_n hx hb dX12_later_102 rfl (lv_at hl 1 rfl) ?_
          refine r_getr 112 X hw sh_86 fd_12_45 rfl rfl lf_X12_150 dX12_later_103 ?_
          refine lv_iload hx hb dX12_later_106 (lv_at hl 0 rfl) ?_
          refine r_iald (132 : Int) rfl X hw sh_112 dX12_later_108 hf (fun hf => ?_)
          refine lv_bipush (v := mI 9) hx hb dX12_later_109 (by decide) ?_
          refine r_idiv X dX12_later_111 hf (fun hf => ?_)
          refine lv_goto (tgt := 147) hx hb dX12_later_112 (by decide) ?_
          exact w_X12_later_b147 X hw (lv_sub hl [1] rfl) hf
      · refine lv_aload_n hx hb dX12_later_84 rfl (lv_at hl 1 rfl) ?_
        refine r_getr 112 X hw sh_86 fd_12_45 rfl rfl lf_X12_150 dX12_later_85 ?_
        refine lv_iload hx hb dX12_later_88 (lv_at hl 0 rfl) ?_
        refine r_iald (132 : Int) rfl X hw sh_112 dX12_later_90 hf (fun hf => ?_)
        refine lv_bipush (v := mI 9) hx hb dX12_later_91 (by decide) ?_
        refine r_irem X dX12_later_93 hf (fun hf => ?_)
        refine lv_goto (tgt := 147) hx hb dX12_later_94 (by decide) ?_
        exact w_X12_later_b147 X hw (lv_sub hl [1] rfl) hf
    · refine lv_aload_n hx hb dX12_later_48 rfl (lv_at hl 0 rfl) ?_
      refine lv_iconst (v := mI 1) hx hb dX12_later_49 rfl ?_
      refine lv_iload hx hb dX12_later_50 (lv_at hl 5 rfl) ?_
      refine r_cvv (rest := []) [.int (mI 1), .int (mI x5)] X hw (fun ra σa h => c_X12_passes l D cy ad bs F 1 x5 σ ra σa  h) sh_86 rfl (by decide) rfl km_X12_passes kv_X12_passes lm_X12_500 dX12_later_52 hl.1 rfl rfl (Nat.le_of_ble_eq_true rfl) ⟨by decide, by decide⟩ ⟨Nat.zero_le _, Nat.zero_le _⟩ hf (fun r210 σ211 _ hf H locs hw => ?_)
      refine lv_iload hx hb dX12_later_55 (lv_at hl 4 rfl) ?_
      refine lv_aload_n hx hb dX12_later_57 rfl (lv_at hl 0 rfl) ?_
      refine r_geti X hw sh_86 fd_12_64 rfl lf_X12_207 dX12_later_58 ?_
      refine lv_iload_n hx hb dX12_later_61 rfl (lv_at hl 1 rfl) ?_
      refine r_ishr X dX12_later_62 ?_
      refine lv_iconst (v := mI 1) hx hb dX12_later_63 rfl ?_
      refine r_iand X dX12_later_64 ?_
      refine r_iadd X dX12_later_65 ?_
      refine r_leti hf (fun y212 hf => ?_)
      refine lv_istore (lv' := [(4, .int (mI y212)), (0, .ref (ad 86)), (1, .int (mI x1)), (2, .int (mI x2)), (3, .int (mI x3)), (5, .int (mI x5))]) hx hb dX12_later_66 hl (by decide) rfl (fun ls hl => ?_)
      refine lv_iinc (v := mI (x5 + 1)) (lv' := [(5, .int (mI (x5 + 1))), (4, .int (mI y212)), (0, .ref (ad 86)), (1, .int (mI x1)), (2, .int (mI x2)), (3, .int (mI x3))]) hx hb dX12_later_68 hl (k := 5) rfl (mI_add _ _) (by decide) rfl (fun ls hl => ?_)
      refine lv_goto (tgt := 42) hx hb dX12_later_71 (by decide) ?_
      exact hk42 x1 x2 x3 y212 (x5 + 1) σ211 _ _ _ hw (lv_sub hl [2, 3, 4, 5, 1, 0] rfl) hf
def g_X12_later (F : Nat) (x1 x2 x3 : Int) (σ : mMem) : mRs := mob (g_X12_isBox F x1 σ) (fun r1 σ2 => if mw r1 = 0 then (g_X12_later_b28 F σ2) else (mob (g_X12_isAhead F x2 0 80 σ2) (fun r3 σ4 => if mw r3 = 0 then (g_X12_later_b28 F σ4) else (mob (g_X12_is F x3 0 4 σ4) (fun r5 σ6 => if ¬ mw r5 = 0 then (mob (g_X12_copies F 1 0 σ6) (fun r7 σ8 => g_X12_later_h42 F F x1 x2 x3 0 0 σ8)) else (g_X12_later_b28 F σ6))))))
set_option maxRecDepth 100000 in
set_option maxHeartbeats 4000000 in
theorem c_X12_later (l : Launch) (D : va_G) (cy : Nat → ClassId) (ad : Nat → Nat) (bs : Nat) (F : Nat)  (x1 x2 x3 : Int) (σ : mMem) (r : Int) (σ' : mMem)  (hf : g_X12_later F x1 x2 x3 σ = some (r, σ')) : mCi l D cy ad bs yX12_later cX12_later 6 (some .int) 8 [.ref (ad 86), .int (mI x1), .int (mI x2), .int (mI x3)] σ r σ' := by
  refine mCi.of (lv := [(0, .ref (ad 86)), (1, .int (mI x1)), (2, .int (mI x2)), (3, .int (mI x3))]) km_X12_later.2.2.2.2.2 (Nat.le_of_ble_eq_true rfl) rfl (fun p e s m args below meth c H locs ls X hw hl => ?_)
  obtain ⟨⟨hx, hb, -, -, -⟩, -⟩ := id X
  unfold g_X12_later at hf
  refine lv_aload_n hx hb dX12_later_0 rfl (lv_at hl 0 rfl) ?_
  refine lv_iload_n hx hb dX12_later_1 rfl (lv_at hl 1 rfl) ?_
  refine r_cvi (rest := []) [.int (mI x1)] X hw (fun ra σa h => c_X12_isBox l D cy ad bs F x1 σ ra σa  h) sh_86 rfl (by decide) rfl km_X12_isBox kv_X12_isBox lm_X12_492 dX12_later_2 hl.1 rfl rfl (Nat.le_of_ble_eq_true rfl) ⟨by decide, by decide⟩ ⟨Nat.zero_le _, Nat.zero_le _⟩ hf (fun r1 σ2 _ hf H locs hw => ?_)
  refine r_if_eq (tgt := 28) X dX12_later_5 (by decide) hf (fun hc hf => ?_) (fun hc hf => ?_)
  · exact w_X12_later_b28 X hw (lv_sub hl [0] rfl) hf
  · refine lv_aload_n hx hb dX12_later_8 rfl (lv_at hl 0 rfl) ?_
    refine lv_iload_n hx hb dX12_later_9 rfl (lv_at hl 2 rfl) ?_
    refine lv_iconst (v := mI 0) hx hb dX12_later_10 rfl ?_
    refine lv_bipush (v := mI 80) hx hb dX12_later_11 (by decide) ?_
    refine r_cvi (rest := []) [.int (mI x2), .int (mI 0), .int (mI 80)] X hw (fun ra σa h => c_X12_isAhead l D cy ad bs F x2 0 80 σ2 ra σa  h) sh_86 rfl (by decide) rfl km_X12_isAhead kv_X12_isAhead lm_X12_497 dX12_later_13 hl.1 rfl rfl (Nat.le_of_ble_eq_true rfl) ⟨by decide, by decide⟩ ⟨Nat.zero_le _, Nat.zero_le _⟩ hf (fun r3 σ4 _ hf H locs hw => ?_)
    refine r_if_eq (tgt := 28) X dX12_later_16 (by decide) hf (fun hc hf => ?_) (fun hc hf => ?_)
    · exact w_X12_later_b28 X hw (lv_sub hl [0] rfl) hf
    · refine lv_iload_n hx hb dX12_later_19 rfl (lv_at hl 3 rfl) ?_
      refine lv_iconst (v := mI 0) hx hb dX12_later_20 rfl ?_
      refine lv_iconst (v := mI 4) hx hb dX12_later_21 rfl ?_
      refine r_csi (rest := []) [.int (mI x3), .int (mI 0), .int (mI 4)] X hw (fun ra σa h => c_X12_is l D cy ad bs F x3 0 4 σ4 ra σa  h) km_X12_is ks_X12_is lm_X12_318 dX12_later_22 hl.1 rfl rfl (Nat.le_of_ble_eq_true rfl) ⟨by decide, by decide⟩ ⟨Nat.zero_le _, Nat.zero_le _⟩ hf (fun r5 σ6 _ hf H locs hw => ?_)
      refine r_if_ne (tgt := 30) X dX12_later_25 (by decide) hf (fun hc hf => ?_) (fun hc hf => ?_)
      · refine lv_aload_n hx hb dX12_later_30 rfl (lv_at hl 0 rfl) ?_
        refine lv_iconst (v := mI 1) hx hb dX12_later_31 rfl ?_
        refine lv_iconst (v := mI 0) hx hb dX12_later_32 rfl ?_
        refine r_cvv (rest := []) [.int (mI 1), .int (mI 0)] X hw (fun ra σa h => c_X12_copies l D cy ad bs F 1 0 σ6 ra σa  h) sh_86 rfl (by decide) rfl km_X12_copies kv_X12_copies lm_X12_421 dX12_later_33 hl.1 rfl rfl (Nat.le_of_ble_eq_true rfl) ⟨by decide, by decide⟩ ⟨Nat.zero_le _, Nat.zero_le _⟩ hf (fun r7 σ8 _ hf H locs hw => ?_)
        refine lv_iconst (v := mI 0) hx hb dX12_later_36 rfl ?_
        refine lv_istore (lv' := [(4, .int (mI 0)), (0, .ref (ad 86)), (1, .int (mI x1)), (2, .int (mI x2)), (3, .int (mI x3))]) hx hb dX12_later_37 hl (by decide) rfl (fun ls hl => ?_)
        refine lv_iconst (v := mI 0) hx hb dX12_later_39 rfl ?_
        refine lv_istore (lv' := [(5, .int (mI 0)), (4, .int (mI 0)), (0, .ref (ad 86)), (1, .int (mI x1)), (2, .int (mI x2)), (3, .int (mI x3))]) hx hb dX12_later_40 hl (by decide) rfl (fun ls hl => ?_)
        exact w_X12_later_h42 X _ hw (lv_sub hl [2, 3, 4, 5, 1, 0] rfl) hf
      · exact w_X12_later_b28 X hw (lv_sub hl [0] rfl) hf
def g_X12_round_b75 (F : Nat) (k18 : Int → Int → mMem → mRs) (x1 x2 : Int) (σ : mMem) : mRs := k18 x1 (x2 + 1) σ
set_option maxRecDepth 100000 in
set_option maxHeartbeats 4000000 in
theorem w_X12_round_b75 {p : Program} {l : Launch} {e : Env} {s : State} {m : MethodId} {args : Array Value} {below : List Frame} {meth : Method} {c : Code} {D : va_G} {cy : Nat → ClassId} {ad : Nat → Nat} {bs : Nat} {F : Nat}  (X : mCx p m c cX12_round 3 s args RX12 meth D cy (some .int))  {r : Int} {σ' : mMem} {k18 : Int → Int → mMem → mRs} (hk18 : ∀ (x1 x2 : Int) (σ : mMem) (H : Heap) (locs : List Loc) (ls : Array Slot), mWd D cy ad bs true mN σ s.heap H locs → lv_has ls 3 [(0, .ref (ad 86)), (1, .int (mI x1)), (2, .int (mI x2))] → k18 x1 x2 σ = some (r, σ') → mGi p l e 8 s m args below meth c D cy ad bs r σ' H locs (F0 m 18 ls [])) {x1 x2 : Int} {σ : mMem} {H : Heap} {locs : List Loc} {ls : Array Slot} (hw : mWd D cy ad bs true mN σ s.heap H locs) (hl : lv_has ls 3 [(0, .ref (ad 86)), (1, .int (mI x1)), (2, .int (mI x2))]) (hf : g_X12_round_b75 F k18 x1 x2 σ = some (r, σ')) : mGi p l e 8 s m args below meth c D cy ad bs r σ' H locs (F0 m 75 ls []) := by
  obtain ⟨⟨hx, hb, -, -, -⟩, -⟩ := id X
  unfold g_X12_round_b75 at hf
  refine lv_iinc (v := mI (x2 + 1)) (lv' := [(2, .int (mI (x2 + 1))), (0, .ref (ad 86)), (1, .int (mI x1))]) hx hb dX12_round_75 hl (k := 2) rfl (mI_add _ _) (by decide) rfl (fun ls hl => ?_)
  refine lv_goto (tgt := 18) hx hb dX12_round_78 (by decide) ?_
  exact hk18 x1 (x2 + 1) σ _ _ _ hw (lv_sub hl [1, 2, 0] rfl) hf
def g_X12_round_h18 (F : Nat)  : Nat → Int → Int → mMem → mRs
  | 0, _, _, _ => none
  | n + 1, x1, x2, σ => mob (g_X12_isAhead F x2 1 80 σ) (fun r105 σ106 => if mw r105 = 0 then (some ((-1), σ106)) else (mob (g_X12_passes F 1 (x2 - 1) σ106) (fun r107 σ108 => if 0 ≤ mw (6 + x1) ∧ mw (6 + x1) < (132 : Int) then if 0 ≤ mw x1 ∧ mw x1 < (132 : Int) then if ¬ mw (σ108 112 (mw (6 + x1)).toNat) = mw (σ108 112 (mw x1).toNat) then (g_X12_round_b75 F (g_X12_round_h18 F n) x1 x2 σ108) else (if 0 ≤ mw (6 + x1) ∧ mw (6 + x1) < (132 : Int) then if 0 ≤ mw x1 ∧ mw x1 < (132 : Int) then if ¬ mw (σ108 113 (mw (6 + x1)).toNat) = mw (σ108 113 (mw x1).toNat) then (g_X12_round_b75 F (g_X12_round_h18 F n) x1 x2 σ108) else (some (x2, σ108)) else none else none) else none else none)))
set_option maxRecDepth 100000 in
set_option maxHeartbeats 4000000 in
theorem w_X12_round_h18 {p : Program} {l : Launch} {e : Env} {s : State} {m : MethodId} {args : Array Value} {below : List Frame} {meth : Method} {c : Code} {D : va_G} {cy : Nat → ClassId} {ad : Nat → Nat} {bs : Nat} {F : Nat}  (X : mCx p m c cX12_round 3 s args RX12 meth D cy (some .int))  {r : Int} {σ' : mMem}   (n : Nat) : ∀ {x1 x2 : Int} {σ : mMem} {H : Heap} {locs : List Loc} {ls : Array Slot} (_ : mWd D cy ad bs true mN σ s.heap H locs) (_ : lv_has ls 3 [(0, .ref (ad 86)), (1, .int (mI x1)), (2, .int (mI x2))]) (_ : g_X12_round_h18 F n x1 x2 σ = some (r, σ')), mGi p l e 8 s m args below meth c D cy ad bs r σ' H locs (F0 m 18 ls []) := by
  obtain ⟨⟨hx, hb, -, -, -⟩, -⟩ := id X
  induction n with
  | zero =>
    intro x1 x2 σ H locs ls hw hl hf
    unfold g_X12_round_h18 at hf
    cases hf
  | succ n ih =>
    have hk18 : ∀ (x1 x2 : Int) (σ : mMem) (H : Heap) (locs : List Loc) (ls : Array Slot), mWd D cy ad bs true mN σ s.heap H locs → lv_has ls 3 [(0, .ref (ad 86)), (1, .int (mI x1)), (2, .int (mI x2))] → g_X12_round_h18 F n x1 x2 σ = some (r, σ') → mGi p l e 8 s m args below meth c D cy ad bs r σ' H locs (F0 m 18 ls []) := fun x1 x2 σ H locs ls hw hl hf => ih hw hl hf
    intro x1 x2 σ H locs ls hw hl hf
    unfold g_X12_round_h18 at hf
    refine lv_aload_n hx hb dX12_round_18 rfl (lv_at hl 0 rfl) ?_
    refine lv_iload_n hx hb dX12_round_19 rfl (lv_at hl 2 rfl) ?_
    refine lv_iconst (v := mI 1) hx hb dX12_round_20 rfl ?_
    refine lv_bipush (v := mI 80) hx hb dX12_round_21 (by decide) ?_
    refine r_cvi (rest := []) [.int (mI x2), .int (mI 1), .int (mI 80)] X hw (fun ra σa h => c_X12_isAhead l D cy ad bs F x2 1 80 σ ra σa  h) sh_86 rfl (by decide) rfl km_X12_isAhead kv_X12_isAhead lm_X12_497 dX12_round_23 hl.1 rfl rfl (Nat.le_of_ble_eq_true rfl) ⟨by decide, by decide⟩ ⟨Nat.zero_le _, Nat.zero_le _⟩ hf (fun r105 σ106 _ hf H locs hw => ?_)
    refine r_if_eq (tgt := 81) X dX12_round_26 (by decide) hf (fun hc hf => ?_) (fun hc hf => ?_)
    · refine lv_iconst (v := mI (-1)) hx hb dX12_round_81 rfl ?_
      exact r_iret X hw dX12_round_82 hf
    · refine lv_aload_n hx hb dX12_round_29 rfl (lv_at hl 0 rfl) ?_
      refine lv_iconst (v := mI 1) hx hb dX12_round_30 rfl ?_
      refine lv_iload_n hx hb dX12_round_31 rfl (lv_at hl 2 rfl) ?_
      refine lv_iconst (v := mI 1) hx hb dX12_round_32 rfl ?_
      refine r_isub X dX12_round_33 ?_
      refine r_cvv (rest := []) [.int (mI 1), .int (mI (x2 - 1))] X hw (fun ra σa h => c_X12_passes l D cy ad bs F 1 (x2 - 1) σ106 ra σa  h) sh_86 rfl (by decide) rfl km_X12_passes kv_X12_passes lm_X12_500 dX12_round_34 hl.1 rfl rfl (Nat.le_of_ble_eq_true rfl) ⟨by decide, by decide⟩ ⟨Nat.zero_le _, Nat.zero_le _⟩ hf (fun r107 σ108 _ hf H locs hw => ?_)
      refine lv_aload_n hx hb dX12_round_37 rfl (lv_at hl 0 rfl) ?_
      refine r_getr 112 X hw sh_86 fd_12_45 rfl rfl lf_X12_150 dX12_round_38 ?_
      refine lv_bipush (v := mI 6) hx hb dX12_round_41 (by decide) ?_
      refine lv_iload_n hx hb dX12_round_43 rfl (lv_at hl 1 rfl) ?_
      refine r_iadd X dX12_round_44 ?_
      refine r_iald (132 : Int) rfl X hw sh_112 dX12_round_45 hf (fun hf => ?_)
      refine lv_aload_n hx hb dX12_round_46 rfl (lv_at hl 0 rfl) ?_
      refine r_getr 112 X hw sh_86 fd_12_45 rfl rfl lf_X12_150 dX12_round_47 ?_
      refine lv_iload_n hx hb dX12_round_50 rfl (lv_at hl 1 rfl) ?_
      refine r_iald (132 : Int) rfl X hw sh_112 dX12_round_51 hf (fun hf => ?_)
      refine r_icmp_ne (tgt := 75) X dX12_round_52 (by decide) hf (fun hc hf => ?_) (fun hc hf => ?_)
      · exact w_X12_round_b75 X hk18 hw (lv_sub hl [0, 1, 2] rfl) hf
      · refine lv_aload_n hx hb dX12_round_55 rfl (lv_at hl 0 rfl) ?_
        refine r_getr 113 X hw sh_86 fd_12_46 rfl rfl lf_X12_153 dX12_round_56 ?_
        refine lv_bipush (v := mI 6) hx hb dX12_round_59 (by decide) ?_
        refine lv_iload_n hx hb dX12_round_61 rfl (lv_at hl 1 rfl) ?_
        refine r_iadd X dX12_round_62 ?_
        refine r_iald (132 : Int) rfl X hw sh_113 dX12_round_63 hf (fun hf => ?_)
        refine lv_aload_n hx hb dX12_round_64 rfl (lv_at hl 0 rfl) ?_
        refine r_getr 113 X hw sh_86 fd_12_46 rfl rfl lf_X12_153 dX12_round_65 ?_
        refine lv_iload_n hx hb dX12_round_68 rfl (lv_at hl 1 rfl) ?_
        refine r_iald (132 : Int) rfl X hw sh_113 dX12_round_69 hf (fun hf => ?_)
        refine r_icmp_ne (tgt := 75) X dX12_round_70 (by decide) hf (fun hc hf => ?_) (fun hc hf => ?_)
        · exact w_X12_round_b75 X hk18 hw (lv_sub hl [0, 1, 2] rfl) hf
        · refine lv_iload_n hx hb dX12_round_73 rfl (lv_at hl 2 rfl) ?_
          exact r_iret X hw dX12_round_74 hf
def g_X12_round (F : Nat) (x1 : Int) (σ : mMem) : mRs := mob (g_X12_isBox F x1 σ) (fun r1 σ2 => if ¬ mw r1 = 0 then (mob (g_X12_copies F 1 0 σ2) (fun r3 σ4 => g_X12_round_h18 F F x1 1 σ4)) else (some ((-1), σ2)))
set_option maxRecDepth 100000 in
set_option maxHeartbeats 4000000 in
theorem c_X12_round (l : Launch) (D : va_G) (cy : Nat → ClassId) (ad : Nat → Nat) (bs : Nat) (F : Nat)  (x1 : Int) (σ : mMem) (r : Int) (σ' : mMem)  (hf : g_X12_round F x1 σ = some (r, σ')) : mCi l D cy ad bs yX12_round cX12_round 3 (some .int) 8 [.ref (ad 86), .int (mI x1)] σ r σ' := by
  refine mCi.of (lv := [(0, .ref (ad 86)), (1, .int (mI x1))]) km_X12_round.2.2.2.2.2 (Nat.le_of_ble_eq_true rfl) rfl (fun p e s m args below meth c H locs ls X hw hl => ?_)
  obtain ⟨⟨hx, hb, -, -, -⟩, -⟩ := id X
  unfold g_X12_round at hf
  refine lv_aload_n hx hb dX12_round_0 rfl (lv_at hl 0 rfl) ?_
  refine lv_iload_n hx hb dX12_round_1 rfl (lv_at hl 1 rfl) ?_
  refine r_cvi (rest := []) [.int (mI x1)] X hw (fun ra σa h => c_X12_isBox l D cy ad bs F x1 σ ra σa  h) sh_86 rfl (by decide) rfl km_X12_isBox kv_X12_isBox lm_X12_492 dX12_round_2 hl.1 rfl rfl (Nat.le_of_ble_eq_true rfl) ⟨by decide, by decide⟩ ⟨Nat.zero_le _, Nat.zero_le _⟩ hf (fun r1 σ2 _ hf H locs hw => ?_)
  refine r_if_ne (tgt := 10) X dX12_round_5 (by decide) hf (fun hc hf => ?_) (fun hc hf => ?_)
  · refine lv_aload_n hx hb dX12_round_10 rfl (lv_at hl 0 rfl) ?_
    refine lv_iconst (v := mI 1) hx hb dX12_round_11 rfl ?_
    refine lv_iconst (v := mI 0) hx hb dX12_round_12 rfl ?_
    refine r_cvv (rest := []) [.int (mI 1), .int (mI 0)] X hw (fun ra σa h => c_X12_copies l D cy ad bs F 1 0 σ2 ra σa  h) sh_86 rfl (by decide) rfl km_X12_copies kv_X12_copies lm_X12_421 dX12_round_13 hl.1 rfl rfl (Nat.le_of_ble_eq_true rfl) ⟨by decide, by decide⟩ ⟨Nat.zero_le _, Nat.zero_le _⟩ hf (fun r3 σ4 _ hf H locs hw => ?_)
    refine lv_iconst (v := mI 1) hx hb dX12_round_16 rfl ?_
    refine lv_istore_n (lv' := [(2, .int (mI 1)), (0, .ref (ad 86)), (1, .int (mI x1))]) hx hb dX12_round_17 rfl hl (by decide) rfl (fun ls hl => ?_)
    exact w_X12_round_h18 X _ hw (lv_sub hl [1, 2, 0] rfl) hf
  · refine lv_iconst (v := mI (-1)) hx hb dX12_round_8 rfl ?_
    exact r_iret X hw dX12_round_9 hf
def g_X12_loses_b18 (F : Nat)  (σ : mMem) : mRs := some ((-1), σ)
set_option maxRecDepth 100000 in
set_option maxHeartbeats 4000000 in
theorem w_X12_loses_b18 {p : Program} {l : Launch} {e : Env} {s : State} {m : MethodId} {args : Array Value} {below : List Frame} {meth : Method} {c : Code} {D : va_G} {cy : Nat → ClassId} {ad : Nat → Nat} {bs : Nat} {F : Nat}  (X : mCx p m c cX12_loses 4 s args RX12 meth D cy (some .int))  {r : Int} {σ' : mMem}    {σ : mMem} {H : Heap} {locs : List Loc} {ls : Array Slot} (hw : mWd D cy ad bs true mN σ s.heap H locs) (hl : lv_has ls 4 [(0, .ref (ad 86))]) (hf : g_X12_loses_b18 F  σ = some (r, σ')) : mGi p l e 8 s m args below meth c D cy ad bs r σ' H locs (F0 m 18 ls []) := by
  obtain ⟨⟨hx, hb, -, -, -⟩, -⟩ := id X
  unfold g_X12_loses_b18 at hf
  refine lv_iconst (v := mI (-1)) hx hb dX12_loses_18 rfl ?_
  exact r_iret X hw dX12_loses_19 hf
def g_X12_loses_h28 (F : Nat)  : Nat → Int → Int → Int → mMem → mRs
  | 0, _, _, _, _ => none
  | n + 1, x1, x2, x3, σ => mob (g_X12_isAhead F x3 0 80 σ) (fun r207 σ208 => if mw r207 = 0 then (some ((-1), σ208)) else (if 0 ≤ mw (6 + x1) ∧ mw (6 + x1) < (132 : Int) then if mw (σ208 115 (mw (6 + x1)).toNat) < mw x2 then (mob (g_X12_passes F 1 x3 σ208) (fun r209 σ210 => (g_X12_loses_h28 F n) x1 x2 (x3 + 1) σ210)) else (some (x3, σ208)) else none))
set_option maxRecDepth 100000 in
set_option maxHeartbeats 4000000 in
theorem w_X12_loses_h28 {p : Program} {l : Launch} {e : Env} {s : State} {m : MethodId} {args : Array Value} {below : List Frame} {meth : Method} {c : Code} {D : va_G} {cy : Nat → ClassId} {ad : Nat → Nat} {bs : Nat} {F : Nat}  (X : mCx p m c cX12_loses 4 s args RX12 meth D cy (some .int))  {r : Int} {σ' : mMem}   (n : Nat) : ∀ {x1 x2 x3 : Int} {σ : mMem} {H : Heap} {locs : List Loc} {ls : Array Slot} (_ : mWd D cy ad bs true mN σ s.heap H locs) (_ : lv_has ls 4 [(0, .ref (ad 86)), (1, .int (mI x1)), (2, .int (mI x2)), (3, .int (mI x3))]) (_ : g_X12_loses_h28 F n x1 x2 x3 σ = some (r, σ')), mGi p l e 8 s m args below meth c D cy ad bs r σ' H locs (F0 m 28 ls []) := by
  obtain ⟨⟨hx, hb, -, -, -⟩, -⟩ := id X
  induction n with
  | zero =>
    intro x1 x2 x3 σ H locs ls hw hl hf
    unfold g_X12_loses_h28 at hf
    cases hf
  | succ n ih =>
    have hk28 : ∀ (x1 x2 x3 : Int) (σ : mMem) (H : Heap) (locs : List Loc) (ls : Array Slot), mWd D cy ad bs true mN σ s.heap H locs → lv_has ls 4 [(0, .ref (ad 86)), (1, .int (mI x1)), (2, .int (mI x2)), (3, .int (mI x3))] → g_X12_loses_h28 F n x1 x2 x3 σ = some (r, σ') → mGi p l e 8 s m args below meth c D cy ad bs r σ' H locs (F0 m 28 ls []) := fun x1 x2 x3 σ H locs ls hw hl hf => ih hw hl hf
    intro x1 x2 x3 σ H locs ls hw hl hf
    unfold g_X12_loses_h28 at hf
    refine lv_aload_n hx hb dX12_loses_28 rfl (lv_at hl 0 rfl) ?_
    refine lv_iload_n hx hb dX12_loses_29 rfl (lv_at hl 3 rfl) ?_
    refine lv_iconst (v := mI 0) hx hb dX12_loses_30 rfl ?_
    refine lv_bipush (v := mI 80) hx hb dX12_loses_31 (by decide) ?_
    refine r_cvi (rest := []) [.int (mI x3), .int (mI 0), .int (mI 80)] X hw (fun ra σa h => c_X12_isAhead l D cy ad bs F x3 0 80 σ ra σa  h) sh_86 rfl (by decide) rfl km_X12_isAhead kv_X12_isAhead lm_X12_497 dX12_loses_33 hl.1 rfl rfl (Nat.le_of_ble_eq_true rfl) ⟨by decide, by decide⟩ ⟨Nat.zero_le _, Nat.zero_le _⟩ hf (fun r207 σ208 _ hf H locs hw => ?_)
    refine r_if_eq (tgt := 66) X dX12_loses_36 (by decide) hf (fun hc hf => ?_) (fun hc hf => ?_)
    · refine lv_iconst (v := mI (-1)) hx hb dX12_loses_66 rfl ?_
      exact r_iret X hw dX12_loses_67 hf
    · refine lv_aload_n hx hb dX12_loses_39 rfl (lv_at hl 0 rfl) ?_
      refine r_getr 115 X hw sh_86 fd_12_48 rfl rfl lf_X12_159 dX12_loses_40 ?_
      refine lv_bipush (v := mI 6) hx hb dX12_loses_43 (by decide) ?_
      refine lv_iload_n hx hb dX12_loses_45 rfl (lv_at hl 1 rfl) ?_
      refine r_iadd X dX12_loses_46 ?_
      refine r_iald (132 : Int) rfl X hw sh_115 dX12_loses_47 hf (fun hf => ?_)
      refine lv_iload_n hx hb dX12_loses_48 rfl (lv_at hl 2 rfl) ?_
      refine r_icmp_lt (tgt := 54) X dX12_loses_49 (by decide) hf (fun hc hf => ?_) (fun hc hf => ?_)
      · refine lv_aload_n hx hb dX12_loses_54 rfl (lv_at hl 0 rfl) ?_
        refine lv_iconst (v := mI 1) hx hb dX12_loses_55 rfl ?_
        refine lv_iload_n hx hb dX12_loses_56 rfl (lv_at hl 3 rfl) ?_
        refine r_cvv (rest := []) [.int (mI 1), .int (mI x3)] X hw (fun ra σa h => c_X12_passes l D cy ad bs F 1 x3 σ208 ra σa  h) sh_86 rfl (by decide) rfl km_X12_passes kv_X12_passes lm_X12_500 dX12_loses_57 hl.1 rfl rfl (Nat.le_of_ble_eq_true rfl) ⟨by decide, by decide⟩ ⟨Nat.zero_le _, Nat.zero_le _⟩ hf (fun r209 σ210 _ hf H locs hw => ?_)
        refine lv_iinc (v := mI (x3 + 1)) (lv' := [(3, .int (mI (x3 + 1))), (0, .ref (ad 86)), (1, .int (mI x1)), (2, .int (mI x2))]) hx hb dX12_loses_60 hl (k := 3) rfl (mI_add _ _) (by decide) rfl (fun ls hl => ?_)
        refine lv_goto (tgt := 28) hx hb dX12_loses_63 (by decide) ?_
        exact hk28 x1 x2 (x3 + 1) σ210 _ _ _ hw (lv_sub hl [1, 2, 3, 0] rfl) hf
      · refine lv_iload_n hx hb dX12_loses_52 rfl (lv_at hl 3 rfl) ?_
        exact r_iret X hw dX12_loses_53 hf
def g_X12_loses (F : Nat) (x1 x2 : Int) (σ : mMem) : mRs := mob (g_X12_isBox F x1 σ) (fun r1 σ2 => if mw r1 = 0 then (g_X12_loses_b18 F σ2) else (mob (g_X12_is F x2 1 99 σ2) (fun r3 σ4 => if ¬ mw r3 = 0 then (mob (g_X12_copies F 1 0 σ4) (fun r5 σ6 => g_X12_loses_h28 F F x1 x2 0 σ6)) else (g_X12_loses_b18 F σ4))))
set_option maxRecDepth 100000 in
set_option maxHeartbeats 4000000 in
theorem c_X12_loses (l : Launch) (D : va_G) (cy : Nat → ClassId) (ad : Nat → Nat) (bs : Nat) (F : Nat)  (x1 x2 : Int) (σ : mMem) (r : Int) (σ' : mMem)  (hf : g_X12_loses F x1 x2 σ = some (r, σ')) : mCi l D cy ad bs yX12_loses cX12_loses 4 (some .int) 8 [.ref (ad 86), .int (mI x1), .int (mI x2)] σ r σ' := by
  refine mCi.of (lv := [(0, .ref (ad 86)), (1, .int (mI x1)), (2, .int (mI x2))]) km_X12_loses.2.2.2.2.2 (Nat.le_of_ble_eq_true rfl) rfl (fun p e s m args below meth c H locs ls X hw hl => ?_)
  obtain ⟨⟨hx, hb, -, -, -⟩, -⟩ := id X
  unfold g_X12_loses at hf
  refine lv_aload_n hx hb dX12_loses_0 rfl (lv_at hl 0 rfl) ?_
  refine lv_iload_n hx hb dX12_loses_1 rfl (lv_at hl 1 rfl) ?_
  refine r_cvi (rest := []) [.int (mI x1)] X hw (fun ra σa h => c_X12_isBox l D cy ad bs F x1 σ ra σa  h) sh_86 rfl (by decide) rfl km_X12_isBox kv_X12_isBox lm_X12_492 dX12_loses_2 hl.1 rfl rfl (Nat.le_of_ble_eq_true rfl) ⟨by decide, by decide⟩ ⟨Nat.zero_le _, Nat.zero_le _⟩ hf (fun r1 σ2 _ hf H locs hw => ?_)
  refine r_if_eq (tgt := 18) X dX12_loses_5 (by decide) hf (fun hc hf => ?_) (fun hc hf => ?_)
  · exact w_X12_loses_b18 X hw (lv_sub hl [0] rfl) hf
  · refine lv_iload_n hx hb dX12_loses_8 rfl (lv_at hl 2 rfl) ?_
    refine lv_iconst (v := mI 1) hx hb dX12_loses_9 rfl ?_
    refine lv_bipush (v := mI 99) hx hb dX12_loses_10 (by decide) ?_
    refine r_csi (rest := []) [.int (mI x2), .int (mI 1), .int (mI 99)] X hw (fun ra σa h => c_X12_is l D cy ad bs F x2 1 99 σ2 ra σa  h) km_X12_is ks_X12_is lm_X12_318 dX12_loses_12 hl.1 rfl rfl (Nat.le_of_ble_eq_true rfl) ⟨by decide, by decide⟩ ⟨Nat.zero_le _, Nat.zero_le _⟩ hf (fun r3 σ4 _ hf H locs hw => ?_)
    refine r_if_ne (tgt := 20) X dX12_loses_15 (by decide) hf (fun hc hf => ?_) (fun hc hf => ?_)
    · refine lv_aload_n hx hb dX12_loses_20 rfl (lv_at hl 0 rfl) ?_
      refine lv_iconst (v := mI 1) hx hb dX12_loses_21 rfl ?_
      refine lv_iconst (v := mI 0) hx hb dX12_loses_22 rfl ?_
      refine r_cvv (rest := []) [.int (mI 1), .int (mI 0)] X hw (fun ra σa h => c_X12_copies l D cy ad bs F 1 0 σ4 ra σa  h) sh_86 rfl (by decide) rfl km_X12_copies kv_X12_copies lm_X12_421 dX12_loses_23 hl.1 rfl rfl (Nat.le_of_ble_eq_true rfl) ⟨by decide, by decide⟩ ⟨Nat.zero_le _, Nat.zero_le _⟩ hf (fun r5 σ6 _ hf H locs hw => ?_)
      refine lv_iconst (v := mI 0) hx hb dX12_loses_26 rfl ?_
      refine lv_istore_n (lv' := [(3, .int (mI 0)), (0, .ref (ad 86)), (1, .int (mI x1)), (2, .int (mI x2))]) hx hb dX12_loses_27 rfl hl (by decide) rfl (fun ls hl => ?_)
      exact w_X12_loses_h28 X _ hw (lv_sub hl [1, 2, 3, 0] rfl) hf
    · exact w_X12_loses_b18 X hw (lv_sub hl [0] rfl) hf
def g_X12_jam_b43 (F : Nat) (k8 : Int → mMem → mRs) (x1 : Int) (σ : mMem) : mRs := k8 (x1 + 1) σ
set_option maxRecDepth 100000 in
set_option maxHeartbeats 4000000 in
theorem w_X12_jam_b43 {p : Program} {l : Launch} {e : Env} {s : State} {m : MethodId} {args : Array Value} {below : List Frame} {meth : Method} {c : Code} {D : va_G} {cy : Nat → ClassId} {ad : Nat → Nat} {bs : Nat} {F : Nat}  (X : mCx p m c cX12_jam 2 s args RX12 meth D cy (some .int))  {r : Int} {σ' : mMem} {k8 : Int → mMem → mRs} (hk8 : ∀ (x1 : Int) (σ : mMem) (H : Heap) (locs : List Loc) (ls : Array Slot), mWd D cy ad bs true mN σ s.heap H locs → lv_has ls 2 [(0, .ref (ad 86)), (1, .int (mI x1))] → k8 x1 σ = some (r, σ') → mGi p l e 8 s m args below meth c D cy ad bs r σ' H locs (F0 m 8 ls [])) {x1 : Int} {σ : mMem} {H : Heap} {locs : List Loc} {ls : Array Slot} (hw : mWd D cy ad bs true mN σ s.heap H locs) (hl : lv_has ls 2 [(0, .ref (ad 86)), (1, .int (mI x1))]) (hf : g_X12_jam_b43 F k8 x1 σ = some (r, σ')) : mGi p l e 8 s m args below meth c D cy ad bs r σ' H locs (F0 m 43 ls []) := by
  obtain ⟨⟨hx, hb, -, -, -⟩, -⟩ := id X
  unfold g_X12_jam_b43 at hf
  refine lv_iinc (v := mI (x1 + 1)) (lv' := [(1, .int (mI (x1 + 1))), (0, .ref (ad 86))]) hx hb dX12_jam_43 hl (k := 1) rfl (mI_add _ _) (by decide) rfl (fun ls hl => ?_)
  refine lv_goto (tgt := 8) hx hb dX12_jam_46 (by decide) ?_
  exact hk8 (x1 + 1) σ _ _ _ hw (lv_sub hl [1, 0] rfl) hf
def g_X12_jam_h8 (F : Nat)  : Nat → Int → mMem → mRs
  | 0, _, _ => none
  | n + 1, x1, σ => mob (g_X12_isAhead F x1 1 80 σ) (fun r103 σ104 => if mw r103 = 0 then (some ((-1), σ104)) else (mob (g_X12_passes F 1 (x1 - 1) σ104) (fun r105 σ106 => if mw (σ106 86 64) = 0 then (g_X12_jam_b43 F (g_X12_jam_h8 F n) x1 σ106) else (if ¬ mw (σ106 86 63) = 0 then (g_X12_jam_b43 F (g_X12_jam_h8 F n) x1 σ106) else (some (x1, σ106))))))
set_option maxRecDepth 100000 in
set_option maxHeartbeats 4000000 in
theorem w_X12_jam_h8 {p : Program} {l : Launch} {e : Env} {s : State} {m : MethodId} {args : Array Value} {below : List Frame} {meth : Method} {c : Code} {D : va_G} {cy : Nat → ClassId} {ad : Nat → Nat} {bs : Nat} {F : Nat}  (X : mCx p m c cX12_jam 2 s args RX12 meth D cy (some .int))  {r : Int} {σ' : mMem}   (n : Nat) : ∀ {x1 : Int} {σ : mMem} {H : Heap} {locs : List Loc} {ls : Array Slot} (_ : mWd D cy ad bs true mN σ s.heap H locs) (_ : lv_has ls 2 [(0, .ref (ad 86)), (1, .int (mI x1))]) (_ : g_X12_jam_h8 F n x1 σ = some (r, σ')), mGi p l e 8 s m args below meth c D cy ad bs r σ' H locs (F0 m 8 ls []) := by
  obtain ⟨⟨hx, hb, -, -, -⟩, -⟩ := id X
  induction n with
  | zero =>
    intro x1 σ H locs ls hw hl hf
    unfold g_X12_jam_h8 at hf
    cases hf
  | succ n ih =>
    have hk8 : ∀ (x1 : Int) (σ : mMem) (H : Heap) (locs : List Loc) (ls : Array Slot), mWd D cy ad bs true mN σ s.heap H locs → lv_has ls 2 [(0, .ref (ad 86)), (1, .int (mI x1))] → g_X12_jam_h8 F n x1 σ = some (r, σ') → mGi p l e 8 s m args below meth c D cy ad bs r σ' H locs (F0 m 8 ls []) := fun x1 σ H locs ls hw hl hf => ih hw hl hf
    intro x1 σ H locs ls hw hl hf
    unfold g_X12_jam_h8 at hf
    refine lv_aload_n hx hb dX12_jam_8 rfl (lv_at hl 0 rfl) ?_
    refine lv_iload_n hx hb dX12_jam_9 rfl (lv_at hl 1 rfl) ?_
    refine lv_iconst (v := mI 1) hx hb dX12_jam_10 rfl ?_
    refine lv_bipush (v := mI 80) hx hb dX12_jam_11 (by decide) ?_
    refine r_cvi (rest := []) [.int (mI x1), .int (mI 1), .int (mI 80)] X hw (fun ra σa h => c_X12_isAhead l D cy ad bs F x1 1 80 σ ra σa  h) sh_86 rfl (by decide) rfl km_X12_isAhead kv_X12_isAhead lm_X12_497 dX12_jam_13 hl.1 rfl rfl (Nat.le_of_ble_eq_true rfl) ⟨by decide, by decide⟩ ⟨Nat.zero_le _, Nat.zero_le _⟩ hf (fun r103 σ104 _ hf H locs hw => ?_)
    refine r_if_eq (tgt := 49) X dX12_jam_16 (by decide) hf (fun hc hf => ?_) (fun hc hf => ?_)
    · refine lv_iconst (v := mI (-1)) hx hb dX12_jam_49 rfl ?_
      exact r_iret X hw dX12_jam_50 hf
    · refine lv_aload_n hx hb dX12_jam_19 rfl (lv_at hl 0 rfl) ?_
      refine lv_iconst (v := mI 1) hx hb dX12_jam_20 rfl ?_
      refine lv_iload_n hx hb dX12_jam_21 rfl (lv_at hl 1 rfl) ?_
      refine lv_iconst (v := mI 1) hx hb dX12_jam_22 rfl ?_
      refine r_isub X dX12_jam_23 ?_
      refine r_cvv (rest := []) [.int (mI 1), .int (mI (x1 - 1))] X hw (fun ra σa h => c_X12_passes l D cy ad bs F 1 (x1 - 1) σ104 ra σa  h) sh_86 rfl (by decide) rfl km_X12_passes kv_X12_passes lm_X12_500 dX12_jam_24 hl.1 rfl rfl (Nat.le_of_ble_eq_true rfl) ⟨by decide, by decide⟩ ⟨Nat.zero_le _, Nat.zero_le _⟩ hf (fun r105 σ106 _ hf H locs hw => ?_)
      refine lv_aload_n hx hb dX12_jam_27 rfl (lv_at hl 0 rfl) ?_
      refine r_geti X hw sh_86 fd_12_64 rfl lf_X12_207 dX12_jam_28 ?_
      refine r_if_eq (tgt := 43) X dX12_jam_31 (by decide) hf (fun hc hf => ?_) (fun hc hf => ?_)
      · exact w_X12_jam_b43 X hk8 hw (lv_sub hl [0, 1] rfl) hf
      · refine lv_aload_n hx hb dX12_jam_34 rfl (lv_at hl 0 rfl) ?_
        refine r_geti X hw sh_86 fd_12_63 rfl lf_X12_204 dX12_jam_35 ?_
        refine r_if_ne (tgt := 43) X dX12_jam_38 (by decide) hf (fun hc hf => ?_) (fun hc hf => ?_)
        · exact w_X12_jam_b43 X hk8 hw (lv_sub hl [0, 1] rfl) hf
        · refine lv_iload_n hx hb dX12_jam_41 rfl (lv_at hl 1 rfl) ?_
          exact r_iret X hw dX12_jam_42 hf
def g_X12_jam (F : Nat) (σ : mMem) : mRs := mob (g_X12_copies F 1 0 σ) (fun r1 σ2 => g_X12_jam_h8 F F 1 σ2)
set_option maxRecDepth 100000 in
set_option maxHeartbeats 4000000 in
theorem c_X12_jam (l : Launch) (D : va_G) (cy : Nat → ClassId) (ad : Nat → Nat) (bs : Nat) (F : Nat)   (σ : mMem) (r : Int) (σ' : mMem)  (hf : g_X12_jam F  σ = some (r, σ')) : mCi l D cy ad bs yX12_jam cX12_jam 2 (some .int) 8 [.ref (ad 86)] σ r σ' := by
  refine mCi.of (lv := [(0, .ref (ad 86))]) km_X12_jam.2.2.2.2.2 (Nat.le_of_ble_eq_true rfl) rfl (fun p e s m args below meth c H locs ls X hw hl => ?_)
  obtain ⟨⟨hx, hb, -, -, -⟩, -⟩ := id X
  unfold g_X12_jam at hf
  refine lv_aload_n hx hb dX12_jam_0 rfl (lv_at hl 0 rfl) ?_
  refine lv_iconst (v := mI 1) hx hb dX12_jam_1 rfl ?_
  refine lv_iconst (v := mI 0) hx hb dX12_jam_2 rfl ?_
  refine r_cvv (rest := []) [.int (mI 1), .int (mI 0)] X hw (fun ra σa h => c_X12_copies l D cy ad bs F 1 0 σ ra σa  h) sh_86 rfl (by decide) rfl km_X12_copies kv_X12_copies lm_X12_421 dX12_jam_3 hl.1 rfl rfl (Nat.le_of_ble_eq_true rfl) ⟨by decide, by decide⟩ ⟨Nat.zero_le _, Nat.zero_le _⟩ hf (fun r1 σ2 _ hf H locs hw => ?_)
  refine lv_iconst (v := mI 1) hx hb dX12_jam_6 rfl ?_
  refine lv_istore_n (lv' := [(1, .int (mI 1)), (0, .ref (ad 86))]) hx hb dX12_jam_7 rfl hl (by decide) rfl (fun ls hl => ?_)
  exact w_X12_jam_h8 X _ hw (lv_sub hl [1, 0] rfl) hf
def g_X12_away_b40 (F : Nat)  (t0 t1 : Int) (σ : mMem) : mRs := some (t0 + t1, σ)
set_option maxRecDepth 100000 in
set_option maxHeartbeats 4000000 in
theorem w_X12_away_b40 {p : Program} {l : Launch} {e : Env} {s : State} {m : MethodId} {args : Array Value} {below : List Frame} {meth : Method} {c : Code} {D : va_G} {cy : Nat → ClassId} {ad : Nat → Nat} {bs : Nat} {F : Nat}  (X : mCx p m c cX12_away 4 s args RX12 meth D cy (some .int))  {r : Int} {σ' : mMem}   {t0 t1 : Int} {σ : mMem} {H : Heap} {locs : List Loc} {ls : Array Slot} (hw : mWd D cy ad bs true mN σ s.heap H locs) (hl : lv_has ls 4 []) (hf : g_X12_away_b40 F t0 t1 σ = some (r, σ')) : mGi p l e 1 s m args below meth c D cy ad bs r σ' H locs (F0 m 40 ls [.int (mI t1), .int (mI t0)]) := by
  obtain ⟨⟨hx, hb, -, -, -⟩, -⟩ := id X
  unfold g_X12_away_b40 at hf
  refine r_iadd X dX12_away_40 ?_
  exact r_iret X hw dX12_away_41 hf
def g_X12_away_b30 (F : Nat)  (x3 t0 : Int) (σ : mMem) : mRs := if 0 ≤ mw x3 then (g_X12_away_b40 F t0 x3 σ) else (g_X12_away_b40 F t0 (-x3) σ)
set_option maxRecDepth 100000 in
set_option maxHeartbeats 4000000 in
theorem w_X12_away_b30 {p : Program} {l : Launch} {e : Env} {s : State} {m : MethodId} {args : Array Value} {below : List Frame} {meth : Method} {c : Code} {D : va_G} {cy : Nat → ClassId} {ad : Nat → Nat} {bs : Nat} {F : Nat}  (X : mCx p m c cX12_away 4 s args RX12 meth D cy (some .int))  {r : Int} {σ' : mMem}   {x3 t0 : Int} {σ : mMem} {H : Heap} {locs : List Loc} {ls : Array Slot} (hw : mWd D cy ad bs true mN σ s.heap H locs) (hl : lv_has ls 4 [(3, .int (mI x3))]) (hf : g_X12_away_b30 F x3 t0 σ = some (r, σ')) : mGi p l e 1 s m args below meth c D cy ad bs r σ' H locs (F0 m 30 ls [.int (mI t0)]) := by
  obtain ⟨⟨hx, hb, -, -, -⟩, -⟩ := id X
  unfold g_X12_away_b30 at hf
  refine lv_iload_n hx hb dX12_away_30 rfl (lv_at hl 0 rfl) ?_
  refine r_if_ge (tgt := 39) X dX12_away_31 (by decide) hf (fun hc hf => ?_) (fun hc hf => ?_)
  · refine lv_iload_n hx hb dX12_away_39 rfl (lv_at hl 0 rfl) ?_
    exact w_X12_away_b40 X hw (lv_sub hl [] rfl) hf
  · refine lv_iload_n hx hb dX12_away_34 rfl (lv_at hl 0 rfl) ?_
    refine r_ineg X dX12_away_35 ?_
    refine lv_goto (tgt := 40) hx hb dX12_away_36 (by decide) ?_
    exact w_X12_away_b40 X hw (lv_sub hl [] rfl) hf
def g_X12_away (F : Nat) (x0 x1 : Int) (σ : mMem) : mRs := if mw 9 = 0 then none else (if mw 9 = 0 then none else (mlet (((mw x0).tmod (mw 9)) - ((mw x1).tmod (mw 9))) (fun y1 => if mw 9 = 0 then none else (if mw 9 = 0 then none else (mlet (((mw x0).tdiv (mw 9)) - ((mw x1).tdiv (mw 9))) (fun y2 => if 0 ≤ mw y1 then (g_X12_away_b30 F y2 y1 σ) else (g_X12_away_b30 F y2 (-y1) σ)))))))
set_option maxRecDepth 100000 in
set_option maxHeartbeats 4000000 in
theorem c_X12_away (l : Launch) (D : va_G) (cy : Nat → ClassId) (ad : Nat → Nat) (bs : Nat) (F : Nat)  (x0 x1 : Int) (σ : mMem) (r : Int) (σ' : mMem)  (hf : g_X12_away F x0 x1 σ = some (r, σ')) : mCi l D cy ad bs yX12_away cX12_away 4 (some .int) 1 [.int (mI x0), .int (mI x1)] σ r σ' := by
  refine mCi.of (lv := [(0, .int (mI x0)), (1, .int (mI x1))]) km_X12_away.2.2.2.2.2 (Nat.le_of_ble_eq_true rfl) rfl (fun p e s m args below meth c H locs ls X hw hl => ?_)
  obtain ⟨⟨hx, hb, -, -, -⟩, -⟩ := id X
  unfold g_X12_away at hf
  refine lv_iload_n hx hb dX12_away_0 rfl (lv_at hl 0 rfl) ?_
  refine lv_bipush (v := mI 9) hx hb dX12_away_1 (by decide) ?_
  refine r_irem X dX12_away_3 hf (fun hf => ?_)
  refine lv_iload_n hx hb dX12_away_4 rfl (lv_at hl 1 rfl) ?_
  refine lv_bipush (v := mI 9) hx hb dX12_away_5 (by decide) ?_
  refine r_irem X dX12_away_7 hf (fun hf => ?_)
  refine r_isub X dX12_away_8 ?_
  refine r_leti hf (fun y1 hf => ?_)
  refine lv_istore_n (lv' := [(2, .int (mI y1)), (0, .int (mI x0)), (1, .int (mI x1))]) hx hb dX12_away_9 rfl hl (by decide) rfl (fun ls hl => ?_)
  refine lv_iload_n hx hb dX12_away_10 rfl (lv_at hl 1 rfl) ?_
  refine lv_bipush (v := mI 9) hx hb dX12_away_11 (by decide) ?_
  refine r_idiv X dX12_away_13 hf (fun hf => ?_)
  refine lv_iload_n hx hb dX12_away_14 rfl (lv_at hl 2 rfl) ?_
  refine lv_bipush (v := mI 9) hx hb dX12_away_15 (by decide) ?_
  refine r_idiv X dX12_away_17 hf (fun hf => ?_)
  refine r_isub X dX12_away_18 ?_
  refine r_leti hf (fun y2 hf => ?_)
  refine lv_istore_n (lv' := [(3, .int (mI y2)), (2, .int (mI y1)), (0, .int (mI x0)), (1, .int (mI x1))]) hx hb dX12_away_19 rfl hl (by decide) rfl (fun ls hl => ?_)
  refine lv_iload_n hx hb dX12_away_20 rfl (lv_at hl 1 rfl) ?_
  refine r_if_ge (tgt := 29) X dX12_away_21 (by decide) hf (fun hc hf => ?_) (fun hc hf => ?_)
  · refine lv_iload_n hx hb dX12_away_29 rfl (lv_at hl 1 rfl) ?_
    exact w_X12_away_b30 X hw (lv_sub hl [0] rfl) hf
  · refine lv_iload_n hx hb dX12_away_24 rfl (lv_at hl 1 rfl) ?_
    refine r_ineg X dX12_away_25 ?_
    refine lv_goto (tgt := 30) hx hb dX12_away_26 (by decide) ?_
    exact w_X12_away_b30 X hw (lv_sub hl [0] rfl) hf
def g_X12_gap_b32 (F : Nat)  (σ : mMem) : mRs := some ((-1), σ)
set_option maxRecDepth 100000 in
set_option maxHeartbeats 4000000 in
theorem w_X12_gap_b32 {p : Program} {l : Launch} {e : Env} {s : State} {m : MethodId} {args : Array Value} {below : List Frame} {meth : Method} {c : Code} {D : va_G} {cy : Nat → ClassId} {ad : Nat → Nat} {bs : Nat} {F : Nat}  (X : mCx p m c cX12_gap 7 s args RX12 meth D cy (some .int))  {r : Int} {σ' : mMem}    {σ : mMem} {H : Heap} {locs : List Loc} {ls : Array Slot} (hw : mWd D cy ad bs true mN σ s.heap H locs) (hl : lv_has ls 7 [(0, .ref (ad 86))]) (hf : g_X12_gap_b32 F  σ = some (r, σ')) : mGi p l e 8 s m args below meth c D cy ad bs r σ' H locs (F0 m 32 ls []) := by
  obtain ⟨⟨hx, hb, -, -, -⟩, -⟩ := id X
  unfold g_X12_gap_b32 at hf
  refine lv_iconst (v := mI (-1)) hx hb dX12_gap_32 rfl ?_
  exact r_iret X hw dX12_gap_33 hf
def g_X12_gap_b110 (F : Nat) (k60 : Int → Int → Int → Int → Int → mMem → mRs) (x1 x2 x3 x5 t0 : Int) (σ : mMem) : mRs := k60 x1 x2 x3 t0 (x5 + 1) σ
set_option maxRecDepth 100000 in
set_option maxHeartbeats 4000000 in
theorem w_X12_gap_b110 {p : Program} {l : Launch} {e : Env} {s : State} {m : MethodId} {args : Array Value} {below : List Frame} {meth : Method} {c : Code} {D : va_G} {cy : Nat → ClassId} {ad : Nat → Nat} {bs : Nat} {F : Nat}  (X : mCx p m c cX12_gap 7 s args RX12 meth D cy (some .int))  {r : Int} {σ' : mMem} {k60 : Int → Int → Int → Int → Int → mMem → mRs} (hk60 : ∀ (x1 x2 x3 x4 x5 : Int) (σ : mMem) (H : Heap) (locs : List Loc) (ls : Array Slot), mWd D cy ad bs true mN σ s.heap H locs → lv_has ls 7 [(0, .ref (ad 86)), (1, .int (mI x1)), (2, .int (mI x2)), (3, .int (mI x3)), (4, .int (mI x4)), (5, .int (mI x5))] → k60 x1 x2 x3 x4 x5 σ = some (r, σ') → mGi p l e 8 s m args below meth c D cy ad bs r σ' H locs (F0 m 60 ls [])) {x1 x2 x3 x5 t0 : Int} {σ : mMem} {H : Heap} {locs : List Loc} {ls : Array Slot} (hw : mWd D cy ad bs true mN σ s.heap H locs) (hl : lv_has ls 7 [(0, .ref (ad 86)), (1, .int (mI x1)), (2, .int (mI x2)), (3, .int (mI x3)), (5, .int (mI x5))]) (hf : g_X12_gap_b110 F k60 x1 x2 x3 x5 t0 σ = some (r, σ')) : mGi p l e 8 s m args below meth c D cy ad bs r σ' H locs (F0 m 110 ls [.int (mI t0)]) := by
  obtain ⟨⟨hx, hb, -, -, -⟩, -⟩ := id X
  unfold g_X12_gap_b110 at hf
  refine lv_istore (lv' := [(4, .int (mI t0)), (0, .ref (ad 86)), (1, .int (mI x1)), (2, .int (mI x2)), (3, .int (mI x3)), (5, .int (mI x5))]) hx hb dX12_gap_110 hl (by decide) rfl (fun ls hl => ?_)
  refine lv_iinc (v := mI (x5 + 1)) (lv' := [(5, .int (mI (x5 + 1))), (4, .int (mI t0)), (0, .ref (ad 86)), (1, .int (mI x1)), (2, .int (mI x2)), (3, .int (mI x3))]) hx hb dX12_gap_112 hl (k := 5) rfl (mI_add _ _) (by decide) rfl (fun ls hl => ?_)
  refine lv_goto (tgt := 60) hx hb dX12_gap_115 (by decide) ?_
  exact hk60 x1 x2 x3 t0 (x5 + 1) σ _ _ _ hw (lv_sub hl [2, 3, 4, 5, 1, 0] rfl) hf
def g_X12_gap_h60 (F : Nat)  : Nat → Int → Int → Int → Int → Int → mMem → mRs
  | 0, _, _, _, _, _, _ => none
  | n + 1, x1, x2, x3, x4, x5, σ => if mw x3 ≤ mw x5 then (some (x4, σ)) else (mob (g_X12_passes F 1 x5 σ) (fun r211 σ212 => if 0 ≤ mw (6 + x1) ∧ mw (6 + x1) < (132 : Int) then if 0 ≤ mw (6 + x2) ∧ mw (6 + x2) < (132 : Int) then mob (g_X12_away F (σ212 112 (mw (6 + x1)).toNat) (σ212 112 (mw (6 + x2)).toNat) σ212) (fun r213 σ214 => if mw x4 ≤ mw r213 then (g_X12_gap_b110 F (g_X12_gap_h60 F n) x1 x2 x3 x5 x4 σ214) else (g_X12_gap_b110 F (g_X12_gap_h60 F n) x1 x2 x3 x5 r213 σ214)) else none else none))
set_option maxRecDepth 100000 in
set_option maxHeartbeats 4000000 in
theorem w_X12_gap_h60 {p : Program} {l : Launch} {e : Env} {s : State} {m : MethodId} {args : Array Value} {below : List Frame} {meth : Method} {c : Code} {D : va_G} {cy : Nat → ClassId} {ad : Nat → Nat} {bs : Nat} {F : Nat}  (X : mCx p m c cX12_gap 7 s args RX12 meth D cy (some .int))  {r : Int} {σ' : mMem}   (n : Nat) : ∀ {x1 x2 x3 x4 x5 : Int} {σ : mMem} {H : Heap} {locs : List Loc} {ls : Array Slot} (_ : mWd D cy ad bs true mN σ s.heap H locs) (_ : lv_has ls 7 [(0, .ref (ad 86)), (1, .int (mI x1)), (2, .int (mI x2)), (3, .int (mI x3)), (4, .int (mI x4)), (5, .int (mI x5))]) (_ : g_X12_gap_h60 F n x1 x2 x3 x4 x5 σ = some (r, σ')), mGi p l e 8 s m args below meth c D cy ad bs r σ' H locs (F0 m 60 ls []) := by
  obtain ⟨⟨hx, hb, -, -, -⟩, -⟩ := id X
  induction n with
  | zero =>
    intro x1 x2 x3 x4 x5 σ H locs ls hw hl hf
    unfold g_X12_gap_h60 at hf
    cases hf
  | succ n ih =>
    have hk60 : ∀ (x1 x2 x3 x4 x5 : Int) (σ : mMem) (H : Heap) (locs : List Loc) (ls : Array Slot), mWd D cy ad bs true mN σ s.heap H locs → lv_has ls 7 [(0, .ref (ad 86)), (1, .int (mI x1)), (2, .int (mI x2)), (3, .int (mI x3)), (4, .int (mI x4)), (5, .int (mI x5))] → g_X12_gap_h60 F n x1 x2 x3 x4 x5 σ = some (r, σ') → mGi p l e 8 s m args below meth c D cy ad bs r σ' H locs (F0 m 60 ls []) := fun x1 x2 x3 x4 x5 σ H locs ls hw hl hf => ih hw hl hf
    intro x1 x2 x3 x4 x5 σ H locs ls hw hl hf
    unfold g_X12_gap_h60 at hf
    refine lv_iload hx hb dX12_gap_60 (lv_at hl 5 rfl) ?_
    refine lv_iload_n hx hb dX12_gap_62 rfl (lv_at hl 3 rfl) ?_
    refine r_icmp_ge (tgt := 118) X dX12_gap_63 (by decide) hf (fun hc hf => ?_) (fun hc hf => ?_)
    · refine lv_iload hx hb dX12_gap_118 (lv_at hl 4 rfl) ?_
      exact r_iret X hw dX12_gap_120 hf
    · refine lv_aload_n hx hb dX12_gap_66 rfl (lv_at hl 0 rfl) ?_
      refine lv_iconst (v := mI 1) hx hb dX12_gap_67 rfl ?_
      refine lv_iload hx hb dX12_gap_68 (lv_at hl 5 rfl) ?_
      refine r_cvv (rest := []) [.int (mI 1), .int (mI x5)] X hw (fun ra σa h => c_X12_passes l D cy ad bs F 1 x5 σ ra σa  h) sh_86 rfl (by decide) rfl km_X12_passes kv_X12_passes lm_X12_500 dX12_gap_70 hl.1 rfl rfl (Nat.le_of_ble_eq_true rfl) ⟨by decide, by decide⟩ ⟨Nat.zero_le _, Nat.zero_le _⟩ hf (fun r211 σ212 _ hf H locs hw => ?_)
      refine lv_aload_n hx hb dX12_gap_73 rfl (lv_at hl 0 rfl) ?_
      refine r_getr 112 X hw sh_86 fd_12_45 rfl rfl lf_X12_150 dX12_gap_74 ?_
      refine lv_bipush (v := mI 6) hx hb dX12_gap_77 (by decide) ?_
      refine lv_iload_n hx hb dX12_gap_79 rfl (lv_at hl 1 rfl) ?_
      refine r_iadd X dX12_gap_80 ?_
      refine r_iald (132 : Int) rfl X hw sh_112 dX12_gap_81 hf (fun hf => ?_)
      refine lv_aload_n hx hb dX12_gap_82 rfl (lv_at hl 0 rfl) ?_
      refine r_getr 112 X hw sh_86 fd_12_45 rfl rfl lf_X12_150 dX12_gap_83 ?_
      refine lv_bipush (v := mI 6) hx hb dX12_gap_86 (by decide) ?_
      refine lv_iload_n hx hb dX12_gap_88 rfl (lv_at hl 2 rfl) ?_
      refine r_iadd X dX12_gap_89 ?_
      refine r_iald (132 : Int) rfl X hw sh_112 dX12_gap_90 hf (fun hf => ?_)
      refine r_csi (rest := []) [.int (mI (σ212 112 (mw (6 + x1)).toNat)), .int (mI (σ212 112 (mw (6 + x2)).toNat))] X hw (fun ra σa h => c_X12_away l D cy ad bs F (σ212 112 (mw (6 + x1)).toNat) (σ212 112 (mw (6 + x2)).toNat) σ212 ra σa  h) km_X12_away ks_X12_away lm_X12_503 dX12_gap_91 hl.1 rfl rfl (Nat.le_of_ble_eq_true rfl) ⟨by decide, by decide⟩ ⟨Nat.zero_le _, Nat.zero_le _⟩ hf (fun r213 σ214 _ hf H locs hw => ?_)
      refine lv_istore (lv' := [(6, .int (mI r213)), (0, .ref (ad 86)), (1, .int (mI x1)), (2, .int (mI x2)), (3, .int (mI x3)), (4, .int (mI x4)), (5, .int (mI x5))]) hx hb dX12_gap_94 hl (by decide) rfl (fun ls hl => ?_)
      refine lv_iload hx hb dX12_gap_96 (lv_at hl 0 rfl) ?_
      refine lv_iload hx hb dX12_gap_98 (lv_at hl 5 rfl) ?_
      refine r_icmp_ge (tgt := 108) X dX12_gap_100 (by decide) hf (fun hc hf => ?_) (fun hc hf => ?_)
      · refine lv_iload hx hb dX12_gap_108 (lv_at hl 5 rfl) ?_
        exact w_X12_gap_b110 X hk60 hw (lv_sub hl [1, 2, 3, 4, 6] rfl) hf
      · refine lv_iload hx hb dX12_gap_103 (lv_at hl 0 rfl) ?_
        refine lv_goto (tgt := 110) hx hb dX12_gap_105 (by decide) ?_
        exact w_X12_gap_b110 X hk60 hw (lv_sub hl [1, 2, 3, 4, 6] rfl) hf
def g_X12_gap (F : Nat) (x1 x2 x3 : Int) (σ : mMem) : mRs := mob (g_X12_isBox F x1 σ) (fun r1 σ2 => if mw r1 = 0 then (g_X12_gap_b32 F σ2) else (mob (g_X12_isBox F x2 σ2) (fun r3 σ4 => if mw r3 = 0 then (g_X12_gap_b32 F σ4) else (if mw x1 = mw x2 then (g_X12_gap_b32 F σ4) else (mob (g_X12_isAhead F x3 0 80 σ4) (fun r5 σ6 => if ¬ mw r5 = 0 then (mob (g_X12_copies F 1 0 σ6) (fun r7 σ8 => if 0 ≤ mw x1 ∧ mw x1 < (132 : Int) then if 0 ≤ mw x2 ∧ mw x2 < (132 : Int) then mob (g_X12_away F (σ8 112 (mw x1).toNat) (σ8 112 (mw x2).toNat) σ8) (fun r9 σ10 => g_X12_gap_h60 F F x1 x2 x3 r9 0 σ10) else none else none)) else (g_X12_gap_b32 F σ6)))))))
set_option maxRecDepth 100000 in
set_option maxHeartbeats 4000000 in
theorem c_X12_gap (l : Launch) (D : va_G) (cy : Nat → ClassId) (ad : Nat → Nat) (bs : Nat) (F : Nat)  (x1 x2 x3 : Int) (σ : mMem) (r : Int) (σ' : mMem)  (hf : g_X12_gap F x1 x2 x3 σ = some (r, σ')) : mCi l D cy ad bs yX12_gap cX12_gap 7 (some .int) 8 [.ref (ad 86), .int (mI x1), .int (mI x2), .int (mI x3)] σ r σ' := by
  refine mCi.of (lv := [(0, .ref (ad 86)), (1, .int (mI x1)), (2, .int (mI x2)), (3, .int (mI x3))]) km_X12_gap.2.2.2.2.2 (Nat.le_of_ble_eq_true rfl) rfl (fun p e s m args below meth c H locs ls X hw hl => ?_)
  obtain ⟨⟨hx, hb, -, -, -⟩, -⟩ := id X
  unfold g_X12_gap at hf
  refine lv_aload_n hx hb dX12_gap_0 rfl (lv_at hl 0 rfl) ?_
  refine lv_iload_n hx hb dX12_gap_1 rfl (lv_at hl 1 rfl) ?_
  refine r_cvi (rest := []) [.int (mI x1)] X hw (fun ra σa h => c_X12_isBox l D cy ad bs F x1 σ ra σa  h) sh_86 rfl (by decide) rfl km_X12_isBox kv_X12_isBox lm_X12_492 dX12_gap_2 hl.1 rfl rfl (Nat.le_of_ble_eq_true rfl) ⟨by decide, by decide⟩ ⟨Nat.zero_le _, Nat.zero_le _⟩ hf (fun r1 σ2 _ hf H locs hw => ?_)
  refine r_if_eq (tgt := 32) X dX12_gap_5 (by decide) hf (fun hc hf => ?_) (fun hc hf => ?_)
  · exact w_X12_gap_b32 X hw (lv_sub hl [0] rfl) hf
  · refine lv_aload_n hx hb dX12_gap_8 rfl (lv_at hl 0 rfl) ?_
    refine lv_iload_n hx hb dX12_gap_9 rfl (lv_at hl 2 rfl) ?_
    refine r_cvi (rest := []) [.int (mI x2)] X hw (fun ra σa h => c_X12_isBox l D cy ad bs F x2 σ2 ra σa  h) sh_86 rfl (by decide) rfl km_X12_isBox kv_X12_isBox lm_X12_492 dX12_gap_10 hl.1 rfl rfl (Nat.le_of_ble_eq_true rfl) ⟨by decide, by decide⟩ ⟨Nat.zero_le _, Nat.zero_le _⟩ hf (fun r3 σ4 _ hf H locs hw => ?_)
    refine r_if_eq (tgt := 32) X dX12_gap_13 (by decide) hf (fun hc hf => ?_) (fun hc hf => ?_)
    · exact w_X12_gap_b32 X hw (lv_sub hl [0] rfl) hf
    · refine lv_iload_n hx hb dX12_gap_16 rfl (lv_at hl 1 rfl) ?_
      refine lv_iload_n hx hb dX12_gap_17 rfl (lv_at hl 2 rfl) ?_
      refine r_icmp_eq (tgt := 32) X dX12_gap_18 (by decide) hf (fun hc hf => ?_) (fun hc hf => ?_)
      · exact w_X12_gap_b32 X hw (lv_sub hl [0] rfl) hf
      · refine lv_aload_n hx hb dX12_gap_21 rfl (lv_at hl 0 rfl) ?_
        refine lv_iload_n hx hb dX12_gap_22 rfl (lv_at hl 3 rfl) ?_
        refine lv_iconst (v := mI 0) hx hb dX12_gap_23 rfl ?_
        refine lv_bipush (v := mI 80) hx hb dX12_gap_24 (by decide) ?_
        refine r_cvi (rest := []) [.int (mI x3), .int (mI 0), .int (mI 80)] X hw (fun ra σa h => c_X12_isAhead l D cy ad bs F x3 0 80 σ4 ra σa  h) sh_86 rfl (by decide) rfl km_X12_isAhead kv_X12_isAhead lm_X12_497 dX12_gap_26 hl.1 rfl rfl (Nat.le_of_ble_eq_true rfl) ⟨by decide, by decide⟩ ⟨Nat.zero_le _, Nat.zero_le _⟩ hf (fun r5 σ6 _ hf H locs hw => ?_)
        refine r_if_ne (tgt := 34) X dX12_gap_29 (by decide) hf (fun hc hf => ?_) (fun hc hf => ?_)
        · refine lv_aload_n hx hb dX12_gap_34 rfl (lv_at hl 0 rfl) ?_
          refine lv_iconst (v := mI 1) hx hb dX12_gap_35 rfl ?_
          refine lv_iconst (v := mI 0) hx hb dX12_gap_36 rfl ?_
          refine r_cvv (rest := []) [.int (mI 1), .int (mI 0)] X hw (fun ra σa h => c_X12_copies l D cy ad bs F 1 0 σ6 ra σa  h) sh_86 rfl (by decide) rfl km_X12_copies kv_X12_copies lm_X12_421 dX12_gap_37 hl.1 rfl rfl (Nat.le_of_ble_eq_true rfl) ⟨by decide, by decide⟩ ⟨Nat.zero_le _, Nat.zero_le _⟩ hf (fun r7 σ8 _ hf H locs hw => ?_)
          refine lv_aload_n hx hb dX12_gap_40 rfl (lv_at hl 0 rfl) ?_
          refine r_getr 112 X hw sh_86 fd_12_45 rfl rfl lf_X12_150 dX12_gap_41 ?_
          refine lv_iload_n hx hb dX12_gap_44 rfl (lv_at hl 1 rfl) ?_
          refine r_iald (132 : Int) rfl X hw sh_112 dX12_gap_45 hf (fun hf => ?_)
          refine lv_aload_n hx hb dX12_gap_46 rfl (lv_at hl 0 rfl) ?_
          refine r_getr 112 X hw sh_86 fd_12_45 rfl rfl lf_X12_150 dX12_gap_47 ?_
          refine lv_iload_n hx hb dX12_gap_50 rfl (lv_at hl 2 rfl) ?_
          refine r_iald (132 : Int) rfl X hw sh_112 dX12_gap_51 hf (fun hf => ?_)
          refine r_csi (rest := []) [.int (mI (σ8 112 (mw x1).toNat)), .int (mI (σ8 112 (mw x2).toNat))] X hw (fun ra σa h => c_X12_away l D cy ad bs F (σ8 112 (mw x1).toNat) (σ8 112 (mw x2).toNat) σ8 ra σa  h) km_X12_away ks_X12_away lm_X12_503 dX12_gap_52 hl.1 rfl rfl (Nat.le_of_ble_eq_true rfl) ⟨by decide, by decide⟩ ⟨Nat.zero_le _, Nat.zero_le _⟩ hf (fun r9 σ10 _ hf H locs hw => ?_)
          refine lv_istore (lv' := [(4, .int (mI r9)), (0, .ref (ad 86)), (1, .int (mI x1)), (2, .int (mI x2)), (3, .int (mI x3))]) hx hb dX12_gap_55 hl (by decide) rfl (fun ls hl => ?_)
          refine lv_iconst (v := mI 0) hx hb dX12_gap_57 rfl ?_
          refine lv_istore (lv' := [(5, .int (mI 0)), (4, .int (mI r9)), (0, .ref (ad 86)), (1, .int (mI x1)), (2, .int (mI x2)), (3, .int (mI x3))]) hx hb dX12_gap_58 hl (by decide) rfl (fun ls hl => ?_)
          exact w_X12_gap_h60 X _ hw (lv_sub hl [2, 3, 4, 5, 1, 0] rfl) hf
        · exact w_X12_gap_b32 X hw (lv_sub hl [0] rfl) hf
def g_X12_tuned_b28 (F : Nat)  (σ : mMem) : mRs := some ((-1), σ)
set_option maxRecDepth 100000 in
set_option maxHeartbeats 4000000 in
theorem w_X12_tuned_b28 {p : Program} {l : Launch} {e : Env} {s : State} {m : MethodId} {args : Array Value} {below : List Frame} {meth : Method} {c : Code} {D : va_G} {cy : Nat → ClassId} {ad : Nat → Nat} {bs : Nat} {F : Nat}  (X : mCx p m c cX12_tuned 9 s args RX12 meth D cy (some .int))  {r : Int} {σ' : mMem}    {σ : mMem} {H : Heap} {locs : List Loc} {ls : Array Slot} (hw : mWd D cy ad bs true mN σ s.heap H locs) (hl : lv_has ls 9 [(0, .ref (ad 86))]) (hf : g_X12_tuned_b28 F  σ = some (r, σ')) : mGi p l e 8 s m args below meth c D cy ad bs r σ' H locs (F0 m 28 ls []) := by
  obtain ⟨⟨hx, hb, -, -, -⟩, -⟩ := id X
  unfold g_X12_tuned_b28 at hf
  refine lv_iconst (v := mI (-1)) hx hb dX12_tuned_28 rfl ?_
  exact r_iret X hw dX12_tuned_29 hf
def g_X12_tuned_b179 (F : Nat)  (t0 : Int) (σ : mMem) : mRs := some (t0, σ)
set_option maxRecDepth 100000 in
set_option maxHeartbeats 4000000 in
theorem w_X12_tuned_b179 {p : Program} {l : Launch} {e : Env} {s : State} {m : MethodId} {args : Array Value} {below : List Frame} {meth : Method} {c : Code} {D : va_G} {cy : Nat → ClassId} {ad : Nat → Nat} {bs : Nat} {F : Nat}  (X : mCx p m c cX12_tuned 9 s args RX12 meth D cy (some .int))  {r : Int} {σ' : mMem}   {t0 : Int} {σ : mMem} {H : Heap} {locs : List Loc} {ls : Array Slot} (hw : mWd D cy ad bs true mN σ s.heap H locs) (hl : lv_has ls 9 [(0, .ref (ad 86))]) (hf : g_X12_tuned_b179 F t0 σ = some (r, σ')) : mGi p l e 8 s m args below meth c D cy ad bs r σ' H locs (F0 m 179 ls [.int (mI t0)]) := by
  obtain ⟨⟨hx, hb, -, -, -⟩, -⟩ := id X
  unfold g_X12_tuned_b179 at hf
  exact r_iret X hw dX12_tuned_179 hf
def g_X12_tuned_b143 (F : Nat) (k44 : Int → Int → Int → Int → Int → Int → mMem → mRs) (x1 x2 x3 x4 x5 x6 : Int) (σ : mMem) : mRs := k44 x1 x2 x3 x4 x5 (x6 + 1) σ
set_option maxRecDepth 100000 in
set_option maxHeartbeats 4000000 in
theorem w_X12_tuned_b143 {p : Program} {l : Launch} {e : Env} {s : State} {m : MethodId} {args : Array Value} {below : List Frame} {meth : Method} {c : Code} {D : va_G} {cy : Nat → ClassId} {ad : Nat → Nat} {bs : Nat} {F : Nat}  (X : mCx p m c cX12_tuned 9 s args RX12 meth D cy (some .int))  {r : Int} {σ' : mMem} {k44 : Int → Int → Int → Int → Int → Int → mMem → mRs} (hk44 : ∀ (x1 x2 x3 x4 x5 x6 : Int) (σ : mMem) (H : Heap) (locs : List Loc) (ls : Array Slot), mWd D cy ad bs true mN σ s.heap H locs → lv_has ls 9 [(0, .ref (ad 86)), (1, .int (mI x1)), (2, .int (mI x2)), (3, .int (mI x3)), (4, .int (mI x4)), (5, .int (mI x5)), (6, .int (mI x6))] → k44 x1 x2 x3 x4 x5 x6 σ = some (r, σ') → mGi p l e 8 s m args below meth c D cy ad bs r σ' H locs (F0 m 44 ls [])) {x1 x2 x3 x4 x5 x6 : Int} {σ : mMem} {H : Heap} {locs : List Loc} {ls : Array Slot} (hw : mWd D cy ad bs true mN σ s.heap H locs) (hl : lv_has ls 9 [(0, .ref (ad 86)), (1, .int (mI x1)), (2, .int (mI x2)), (3, .int (mI x3)), (4, .int (mI x4)), (5, .int (mI x5)), (6, .int (mI x6))]) (hf : g_X12_tuned_b143 F k44 x1 x2 x3 x4 x5 x6 σ = some (r, σ')) : mGi p l e 8 s m args below meth c D cy ad bs r σ' H locs (F0 m 143 ls []) := by
  obtain ⟨⟨hx, hb, -, -, -⟩, -⟩ := id X
  unfold g_X12_tuned_b143 at hf
  refine lv_iinc (v := mI (x6 + 1)) (lv' := [(6, .int (mI (x6 + 1))), (0, .ref (ad 86)), (1, .int (mI x1)), (2, .int (mI x2)), (3, .int (mI x3)), (4, .int (mI x4)), (5, .int (mI x5))]) hx hb dX12_tuned_143 hl (k := 6) rfl (mI_add _ _) (by decide) rfl (fun ls hl => ?_)
  refine lv_goto (tgt := 44) hx hb dX12_tuned_146 (by decide) ?_
  exact hk44 x1 x2 x3 x4 x5 (x6 + 1) σ _ _ _ hw (lv_sub hl [1, 2, 3, 4, 5, 6, 0] rfl) hf
def g_X12_tuned_b116 (F : Nat) (k44 : Int → Int → Int → Int → Int → Int → mMem → mRs) (k79 : Int → Int → Int → Int → Int → Int → Int → Int → mMem → mRs) (x1 x2 x3 x4 x5 x6 x8 t0 t1 : Int) (σ : mMem) : mRs := mlet (t0 + t1) (fun y617 => k79 x1 x2 x3 x4 x5 x6 y617 (x8 + 1) σ)
set_option maxRecDepth 100000 in
set_option maxHeartbeats 4000000 in
theorem w_X12_tuned_b116 {p : Program} {l : Launch} {e : Env} {s : State} {m : MethodId} {args : Array Value} {below : List Frame} {meth : Method} {c : Code} {D : va_G} {cy : Nat → ClassId} {ad : Nat → Nat} {bs : Nat} {F : Nat}  (X : mCx p m c cX12_tuned 9 s args RX12 meth D cy (some .int))  {r : Int} {σ' : mMem} {k44 : Int → Int → Int → Int → Int → Int → mMem → mRs} {k79 : Int → Int → Int → Int → Int → Int → Int → Int → mMem → mRs} (hk44 : ∀ (x1 x2 x3 x4 x5 x6 : Int) (σ : mMem) (H : Heap) (locs : List Loc) (ls : Array Slot), mWd D cy ad bs true mN σ s.heap H locs → lv_has ls 9 [(0, .ref (ad 86)), (1, .int (mI x1)), (2, .int (mI x2)), (3, .int (mI x3)), (4, .int (mI x4)), (5, .int (mI x5)), (6, .int (mI x6))] → k44 x1 x2 x3 x4 x5 x6 σ = some (r, σ') → mGi p l e 8 s m args below meth c D cy ad bs r σ' H locs (F0 m 44 ls [])) (hk79 : ∀ (x1 x2 x3 x4 x5 x6 x7 x8 : Int) (σ : mMem) (H : Heap) (locs : List Loc) (ls : Array Slot), mWd D cy ad bs true mN σ s.heap H locs → lv_has ls 9 [(0, .ref (ad 86)), (1, .int (mI x1)), (2, .int (mI x2)), (3, .int (mI x3)), (4, .int (mI x4)), (5, .int (mI x5)), (6, .int (mI x6)), (7, .int (mI x7)), (8, .int (mI x8))] → k79 x1 x2 x3 x4 x5 x6 x7 x8 σ = some (r, σ') → mGi p l e 8 s m args below meth c D cy ad bs r σ' H locs (F0 m 79 ls [])) {x1 x2 x3 x4 x5 x6 x8 t0 t1 : Int} {σ : mMem} {H : Heap} {locs : List Loc} {ls : Array Slot} (hw : mWd D cy ad bs true mN σ s.heap H locs) (hl : lv_has ls 9 [(0, .ref (ad 86)), (1, .int (mI x1)), (2, .int (mI x2)), (3, .int (mI x3)), (4, .int (mI x4)), (5, .int (mI x5)), (6, .int (mI x6)), (8, .int (mI x8))]) (hf : g_X12_tuned_b116 F k44 k79 x1 x2 x3 x4 x5 x6 x8 t0 t1 σ = some (r, σ')) : mGi p l e 8 s m args below meth c D cy ad bs r σ' H locs (F0 m 116 ls [.int (mI t1), .int (mI t0)]) := by
  obtain ⟨⟨hx, hb, -, -, -⟩, -⟩ := id X
  unfold g_X12_tuned_b116 at hf
  refine r_iadd X dX12_tuned_116 ?_
  refine r_leti hf (fun y617 hf => ?_)
  refine lv_istore (lv' := [(7, .int (mI y617)), (0, .ref (ad 86)), (1, .int (mI x1)), (2, .int (mI x2)), (3, .int (mI x3)), (4, .int (mI x4)), (5, .int (mI x5)), (6, .int (mI x6)), (8, .int (mI x8))]) hx hb dX12_tuned_117 hl (by decide) rfl (fun ls hl => ?_)
  refine lv_iinc (v := mI (x8 + 1)) (lv' := [(8, .int (mI (x8 + 1))), (7, .int (mI y617)), (0, .ref (ad 86)), (1, .int (mI x1)), (2, .int (mI x2)), (3, .int (mI x3)), (4, .int (mI x4)), (5, .int (mI x5)), (6, .int (mI x6))]) hx hb dX12_tuned_119 hl (k := 8) rfl (mI_add _ _) (by decide) rfl (fun ls hl => ?_)
  refine lv_goto (tgt := 79) hx hb dX12_tuned_122 (by decide) ?_
  exact hk79 x1 x2 x3 x4 x5 x6 y617 (x8 + 1) σ _ _ _ hw (lv_sub hl [2, 3, 4, 5, 6, 7, 8, 1, 0] rfl) hf
def g_X12_tuned_h79 (F : Nat) (k44 : Int → Int → Int → Int → Int → Int → mMem → mRs) : Nat → Int → Int → Int → Int → Int → Int → Int → Int → mMem → mRs
  | 0, _, _, _, _, _, _, _, _, _ => none
  | n + 1, x1, x2, x3, x4, x5, x6, x7, x8, σ => if mw x2 ≤ mw x8 then (if mw x5 < mw x7 then (g_X12_tuned_b143 F k44 x1 x2 x3 x6 x7 x6 σ) else (g_X12_tuned_b143 F k44 x1 x2 x3 x4 x5 x6 σ)) else (mob (g_X12_passes F 1 x8 σ) (fun r413 σ414 => if 0 ≤ mw (6 + x1) ∧ mw (6 + x1) < (132 : Int) then mob (g_X12_isBlack F 1 (σ414 112 (mw (6 + x1)).toNat) σ414) (fun r415 σ416 => if mw r415 = 0 then (g_X12_tuned_b116 F k44 (g_X12_tuned_h79 F k44 n) x1 x2 x3 x4 x5 x6 x8 x7 0 σ416) else (g_X12_tuned_b116 F k44 (g_X12_tuned_h79 F k44 n) x1 x2 x3 x4 x5 x6 x8 x7 1 σ416)) else none))
set_option maxRecDepth 100000 in
set_option maxHeartbeats 4000000 in
theorem w_X12_tuned_h79 {p : Program} {l : Launch} {e : Env} {s : State} {m : MethodId} {args : Array Value} {below : List Frame} {meth : Method} {c : Code} {D : va_G} {cy : Nat → ClassId} {ad : Nat → Nat} {bs : Nat} {F : Nat}  (X : mCx p m c cX12_tuned 9 s args RX12 meth D cy (some .int))  {r : Int} {σ' : mMem} {k44 : Int → Int → Int → Int → Int → Int → mMem → mRs} (hk44 : ∀ (x1 x2 x3 x4 x5 x6 : Int) (σ : mMem) (H : Heap) (locs : List Loc) (ls : Array Slot), mWd D cy ad bs true mN σ s.heap H locs → lv_has ls 9 [(0, .ref (ad 86)), (1, .int (mI x1)), (2, .int (mI x2)), (3, .int (mI x3)), (4, .int (mI x4)), (5, .int (mI x5)), (6, .int (mI x6))] → k44 x1 x2 x3 x4 x5 x6 σ = some (r, σ') → mGi p l e 8 s m args below meth c D cy ad bs r σ' H locs (F0 m 44 ls [])) (n : Nat) : ∀ {x1 x2 x3 x4 x5 x6 x7 x8 : Int} {σ : mMem} {H : Heap} {locs : List Loc} {ls : Array Slot} (_ : mWd D cy ad bs true mN σ s.heap H locs) (_ : lv_has ls 9 [(0, .ref (ad 86)), (1, .int (mI x1)), (2, .int (mI x2)), (3, .int (mI x3)), (4, .int (mI x4)), (5, .int (mI x5)), (6, .int (mI x6)), (7, .int (mI x7)), (8, .int (mI x8))]) (_ : g_X12_tuned_h79 F k44 n x1 x2 x3 x4 x5 x6 x7 x8 σ = some (r, σ')), mGi p l e 8 s m args below meth c D cy ad bs r σ' H locs (F0 m 79 ls []) := by
  obtain ⟨⟨hx, hb, -, -, -⟩, -⟩ := id X
  induction n with
  | zero =>
    intro x1 x2 x3 x4 x5 x6 x7 x8 σ H locs ls hw hl hf
    unfold g_X12_tuned_h79 at hf
    cases hf
  | succ n ih =>
    have hk79 : ∀ (x1 x2 x3 x4 x5 x6 x7 x8 : Int) (σ : mMem) (H : Heap) (locs : List Loc) (ls : Array Slot), mWd D cy ad bs true mN σ s.heap H locs → lv_has ls 9 [(0, .ref (ad 86)), (1, .int (mI x1)), (2, .int (mI x2)), (3, .int (mI x3)), (4, .int (mI x4)), (5, .int (mI x5)), (6, .int (mI x6)), (7, .int (mI x7)), (8, .int (mI x8))] → g_X12_tuned_h79 F k44 n x1 x2 x3 x4 x5 x6 x7 x8 σ = some (r, σ') → mGi p l e 8 s m args below meth c D cy ad bs r σ' H locs (F0 m 79 ls []) := fun x1 x2 x3 x4 x5 x6 x7 x8 σ H locs ls hw hl hf => ih hw hl hf
    intro x1 x2 x3 x4 x5 x6 x7 x8 σ H locs ls hw hl hf
    unfold g_X12_tuned_h79 at hf
    refine lv_iload hx hb dX12_tuned_79 (lv_at hl 8 rfl) ?_
    refine lv_iload_n hx hb dX12_tuned_81 rfl (lv_at hl 2 rfl) ?_
    refine r_icmp_ge (tgt := 125) X dX12_tuned_82 (by decide) hf (fun hc hf => ?_) (fun hc hf => ?_)
    · refine lv_iload hx hb dX12_tuned_125 (lv_at hl 7 rfl) ?_
      refine lv_iload hx hb dX12_tuned_127 (lv_at hl 5 rfl) ?_
      refine r_icmp_gt (tgt := 135) X dX12_tuned_129 (by decide) hf (fun hc hf => ?_) (fun hc hf => ?_)
      · refine lv_iload hx hb dX12_tuned_135 (lv_at hl 7 rfl) ?_
        refine lv_istore (lv' := [(5, .int (mI x7)), (0, .ref (ad 86)), (1, .int (mI x1)), (2, .int (mI x2)), (3, .int (mI x3)), (4, .int (mI x4)), (6, .int (mI x6)), (7, .int (mI x7)), (8, .int (mI x8))]) hx hb dX12_tuned_137 hl (by decide) rfl (fun ls hl => ?_)
        refine lv_iload hx hb dX12_tuned_139 (lv_at hl 6 rfl) ?_
        refine lv_istore (lv' := [(4, .int (mI x6)), (5, .int (mI x7)), (0, .ref (ad 86)), (1, .int (mI x1)), (2, .int (mI x2)), (3, .int (mI x3)), (6, .int (mI x6)), (7, .int (mI x7)), (8, .int (mI x8))]) hx hb dX12_tuned_141 hl (by decide) rfl (fun ls hl => ?_)
        exact w_X12_tuned_b143 X hk44 hw (lv_sub hl [2, 3, 4, 5, 0, 1, 6] rfl) hf
      · refine lv_goto (tgt := 143) hx hb dX12_tuned_132 (by decide) ?_
        exact w_X12_tuned_b143 X hk44 hw (lv_sub hl [0, 1, 2, 3, 4, 5, 6] rfl) hf
    · refine lv_aload_n hx hb dX12_tuned_85 rfl (lv_at hl 0 rfl) ?_
      refine lv_iconst (v := mI 1) hx hb dX12_tuned_86 rfl ?_
      refine lv_iload hx hb dX12_tuned_87 (lv_at hl 8 rfl) ?_
      refine r_cvv (rest := []) [.int (mI 1), .int (mI x8)] X hw (fun ra σa h => c_X12_passes l D cy ad bs F 1 x8 σ ra σa  h) sh_86 rfl (by decide) rfl km_X12_passes kv_X12_passes lm_X12_500 dX12_tuned_89 hl.1 rfl rfl (Nat.le_of_ble_eq_true rfl) ⟨by decide, by decide⟩ ⟨Nat.zero_le _, Nat.zero_le _⟩ hf (fun r413 σ414 _ hf H locs hw => ?_)
      refine lv_iload hx hb dX12_tuned_92 (lv_at hl 7 rfl) ?_
      refine lv_aload_n hx hb dX12_tuned_94 rfl (lv_at hl 0 rfl) ?_
      refine lv_iconst (v := mI 1) hx hb dX12_tuned_95 rfl ?_
      refine lv_aload_n hx hb dX12_tuned_96 rfl (lv_at hl 0 rfl) ?_
      refine r_getr 112 X hw sh_86 fd_12_45 rfl rfl lf_X12_150 dX12_tuned_97 ?_
      refine lv_bipush (v := mI 6) hx hb dX12_tuned_100 (by decide) ?_
      refine lv_iload_n hx hb dX12_tuned_102 rfl (lv_at hl 1 rfl) ?_
      refine r_iadd X dX12_tuned_103 ?_
      refine r_iald (132 : Int) rfl X hw sh_112 dX12_tuned_104 hf (fun hf => ?_)
      refine r_cvi (rest := [.int (mI x7)]) [.int (mI 1), .int (mI (σ414 112 (mw (6 + x1)).toNat))] X hw (fun ra σa h => c_X12_isBlack l D cy ad bs F 1 (σ414 112 (mw (6 + x1)).toNat) σ414 ra σa  h) sh_86 rfl (by decide) rfl km_X12_isBlack kv_X12_isBlack lm_X12_489 dX12_tuned_105 hl.1 rfl rfl (Nat.le_of_ble_eq_true rfl) ⟨by decide, by decide⟩ ⟨Nat.zero_le _, Nat.zero_le _⟩ hf (fun r415 σ416 _ hf H locs hw => ?_)
      refine r_if_eq (tgt := 115) X dX12_tuned_108 (by decide) hf (fun hc hf => ?_) (fun hc hf => ?_)
      · refine lv_iconst (v := mI 0) hx hb dX12_tuned_115 rfl ?_
        exact w_X12_tuned_b116 X hk44 hk79 hw (lv_sub hl [0, 1, 2, 3, 4, 5, 6, 8] rfl) hf
      · refine lv_iconst (v := mI 1) hx hb dX12_tuned_111 rfl ?_
        refine lv_goto (tgt := 116) hx hb dX12_tuned_112 (by decide) ?_
        exact w_X12_tuned_b116 X hk44 hk79 hw (lv_sub hl [0, 1, 2, 3, 4, 5, 6, 8] rfl) hf
def g_X12_tuned_h44 (F : Nat)  : Nat → Int → Int → Int → Int → Int → Int → mMem → mRs
  | 0, _, _, _, _, _, _, _ => none
  | n + 1, x1, x2, x3, x4, x5, x6, σ => if mw 12 ≤ mw x6 then (mlm (mup σ 86 57 (-1)) (fun σ208 => if ¬ mw x3 = 0 then (if ¬ mw x3 = mw 1 then (g_X12_tuned_b179 F x5 σ208) else (if mw 4 = 0 then none else (g_X12_tuned_b179 F ((mw x4).tmod (mw 4)) σ208))) else (if mw 4 = 0 then none else (g_X12_tuned_b179 F ((mw x4).tdiv (mw 4)) σ208)))) else (if mw 4 = 0 then none else (mlm (mup σ 86 58 ((mw x6).tdiv (mw 4))) (fun σ209 => if mw 4 = 0 then none else (mlm (mup σ209 86 59 ((mw x6).tmod (mw 4))) (fun σ210 => mob (g_X12_copies F 1 0 σ210) (fun r211 σ212 => g_X12_tuned_h79 F (g_X12_tuned_h44 F n) F x1 x2 x3 x4 x5 x6 0 0 σ212))))))
set_option maxRecDepth 100000 in
set_option maxHeartbeats 4000000 in
theorem w_X12_tuned_h44 {p : Program} {l : Launch} {e : Env} {s : State} {m : MethodId} {args : Array Value} {below : List Frame} {meth : Method} {c : Code} {D : va_G} {cy : Nat → ClassId} {ad : Nat → Nat} {bs : Nat} {F : Nat}  (X : mCx p m c cX12_tuned 9 s args RX12 meth D cy (some .int))  {r : Int} {σ' : mMem}   (n : Nat) : ∀ {x1 x2 x3 x4 x5 x6 : Int} {σ : mMem} {H : Heap} {locs : List Loc} {ls : Array Slot} (_ : mWd D cy ad bs true mN σ s.heap H locs) (_ : lv_has ls 9 [(0, .ref (ad 86)), (1, .int (mI x1)), (2, .int (mI x2)), (3, .int (mI x3)), (4, .int (mI x4)), (5, .int (mI x5)), (6, .int (mI x6))]) (_ : g_X12_tuned_h44 F n x1 x2 x3 x4 x5 x6 σ = some (r, σ')), mGi p l e 8 s m args below meth c D cy ad bs r σ' H locs (F0 m 44 ls []) := by
  obtain ⟨⟨hx, hb, -, -, -⟩, -⟩ := id X
  induction n with
  | zero =>
    intro x1 x2 x3 x4 x5 x6 σ H locs ls hw hl hf
    unfold g_X12_tuned_h44 at hf
    cases hf
  | succ n ih =>
    have hk44 : ∀ (x1 x2 x3 x4 x5 x6 : Int) (σ : mMem) (H : Heap) (locs : List Loc) (ls : Array Slot), mWd D cy ad bs true mN σ s.heap H locs → lv_has ls 9 [(0, .ref (ad 86)), (1, .int (mI x1)), (2, .int (mI x2)), (3, .int (mI x3)), (4, .int (mI x4)), (5, .int (mI x5)), (6, .int (mI x6))] → g_X12_tuned_h44 F n x1 x2 x3 x4 x5 x6 σ = some (r, σ') → mGi p l e 8 s m args below meth c D cy ad bs r σ' H locs (F0 m 44 ls []) := fun x1 x2 x3 x4 x5 x6 σ H locs ls hw hl hf => ih hw hl hf
    intro x1 x2 x3 x4 x5 x6 σ H locs ls hw hl hf
    unfold g_X12_tuned_h44 at hf
    refine lv_iload hx hb dX12_tuned_44 (lv_at hl 6 rfl) ?_
    refine lv_bipush (v := mI 12) hx hb dX12_tuned_46 (by decide) ?_
    refine r_icmp_ge (tgt := 149) X dX12_tuned_48 (by decide) hf (fun hc hf => ?_) (fun hc hf => ?_)
    · refine lv_aload_n hx hb dX12_tuned_149 rfl (lv_at hl 0 rfl) ?_
      refine lv_iconst (v := mI (-1)) hx hb dX12_tuned_150 rfl ?_
      refine r_puti X hw sh_86 fd_12_57 fp_12_57 rfl rfl lf_X12_186 dX12_tuned_151 (fun H locs hw => ?_)
      refine r_mem hf hw (fun σ208 hw hf => ?_)
      refine lv_iload_n hx hb dX12_tuned_154 rfl (lv_at hl 3 rfl) ?_
      refine r_if_ne (tgt := 165) X dX12_tuned_155 (by decide) hf (fun hc hf => ?_) (fun hc hf => ?_)
      · refine lv_iload_n hx hb dX12_tuned_165 rfl (lv_at hl 3 rfl) ?_
        refine lv_iconst (v := mI 1) hx hb dX12_tuned_166 rfl ?_
        refine r_icmp_ne (tgt := 177) X dX12_tuned_167 (by decide) hf (fun hc hf => ?_) (fun hc hf => ?_)
        · refine lv_iload hx hb dX12_tuned_177 (lv_at hl 5 rfl) ?_
          exact w_X12_tuned_b179 X hw (lv_sub hl [0] rfl) hf
        · refine lv_iload hx hb dX12_tuned_170 (lv_at hl 4 rfl) ?_
          refine lv_iconst (v := mI 4) hx hb dX12_tuned_172 rfl ?_
          refine r_irem X dX12_tuned_173 hf (fun hf => ?_)
          refine lv_goto (tgt := 179) hx hb dX12_tuned_174 (by decide) ?_
          exact w_X12_tuned_b179 X hw (lv_sub hl [0] rfl) hf
      · refine lv_iload hx hb dX12_tuned_158 (lv_at hl 4 rfl) ?_
        refine lv_iconst (v := mI 4) hx hb dX12_tuned_160 rfl ?_
        refine r_idiv X dX12_tuned_161 hf (fun hf => ?_)
        refine lv_goto (tgt := 179) hx hb dX12_tuned_162 (by decide) ?_
        exact w_X12_tuned_b179 X hw (lv_sub hl [0] rfl) hf
    · refine lv_aload_n hx hb dX12_tuned_51 rfl (lv_at hl 0 rfl) ?_
      refine lv_iload hx hb dX12_tuned_52 (lv_at hl 6 rfl) ?_
      refine lv_iconst (v := mI 4) hx hb dX12_tuned_54 rfl ?_
      refine r_idiv X dX12_tuned_55 hf (fun hf => ?_)
      refine r_puti X hw sh_86 fd_12_58 fp_12_58 rfl rfl lf_X12_189 dX12_tuned_56 (fun H locs hw => ?_)
      refine r_mem hf hw (fun σ209 hw hf => ?_)
      refine lv_aload_n hx hb dX12_tuned_59 rfl (lv_at hl 0 rfl) ?_
      refine lv_iload hx hb dX12_tuned_60 (lv_at hl 6 rfl) ?_
      refine lv_iconst (v := mI 4) hx hb dX12_tuned_62 rfl ?_
      refine r_irem X dX12_tuned_63 hf (fun hf => ?_)
      refine r_puti X hw sh_86 fd_12_59 fp_12_59 rfl rfl lf_X12_192 dX12_tuned_64 (fun H locs hw => ?_)
      refine r_mem hf hw (fun σ210 hw hf => ?_)
      refine lv_aload_n hx hb dX12_tuned_67 rfl (lv_at hl 0 rfl) ?_
      refine lv_iconst (v := mI 1) hx hb dX12_tuned_68 rfl ?_
      refine lv_iconst (v := mI 0) hx hb dX12_tuned_69 rfl ?_
      refine r_cvv (rest := []) [.int (mI 1), .int (mI 0)] X hw (fun ra σa h => c_X12_copies l D cy ad bs F 1 0 σ210 ra σa  h) sh_86 rfl (by decide) rfl km_X12_copies kv_X12_copies lm_X12_421 dX12_tuned_70 hl.1 rfl rfl (Nat.le_of_ble_eq_true rfl) ⟨by decide, by decide⟩ ⟨Nat.zero_le _, Nat.zero_le _⟩ hf (fun r211 σ212 _ hf H locs hw => ?_)
      refine lv_iconst (v := mI 0) hx hb dX12_tuned_73 rfl ?_
      refine lv_istore (lv' := [(7, .int (mI 0)), (0, .ref (ad 86)), (1, .int (mI x1)), (2, .int (mI x2)), (3, .int (mI x3)), (4, .int (mI x4)), (5, .int (mI x5)), (6, .int (mI x6))]) hx hb dX12_tuned_74 hl (by decide) rfl (fun ls hl => ?_)
      refine lv_iconst (v := mI 0) hx hb dX12_tuned_76 rfl ?_
      refine lv_istore (lv' := [(8, .int (mI 0)), (7, .int (mI 0)), (0, .ref (ad 86)), (1, .int (mI x1)), (2, .int (mI x2)), (3, .int (mI x3)), (4, .int (mI x4)), (5, .int (mI x5)), (6, .int (mI x6))]) hx hb dX12_tuned_77 hl (by decide) rfl (fun ls hl => ?_)
      exact w_X12_tuned_h79 X hk44 _ hw (lv_sub hl [2, 3, 4, 5, 6, 7, 8, 1, 0] rfl) hf
def g_X12_tuned (F : Nat) (x1 x2 x3 : Int) (σ : mMem) : mRs := mob (g_X12_isBox F x1 σ) (fun r1 σ2 => if mw r1 = 0 then (g_X12_tuned_b28 F σ2) else (mob (g_X12_isAhead F x2 1 60 σ2) (fun r3 σ4 => if mw r3 = 0 then (g_X12_tuned_b28 F σ4) else (mob (g_X12_is F x3 0 2 σ4) (fun r5 σ6 => if ¬ mw r5 = 0 then (mlm (mup σ6 86 57 x1) (fun σ7 => g_X12_tuned_h44 F F x1 x2 x3 (-1) (-1) 0 σ7)) else (g_X12_tuned_b28 F σ6))))))
set_option maxRecDepth 100000 in
set_option maxHeartbeats 4000000 in
theorem c_X12_tuned (l : Launch) (D : va_G) (cy : Nat → ClassId) (ad : Nat → Nat) (bs : Nat) (F : Nat)  (x1 x2 x3 : Int) (σ : mMem) (r : Int) (σ' : mMem)  (hf : g_X12_tuned F x1 x2 x3 σ = some (r, σ')) : mCi l D cy ad bs yX12_tuned cX12_tuned 9 (some .int) 8 [.ref (ad 86), .int (mI x1), .int (mI x2), .int (mI x3)] σ r σ' := by
  refine mCi.of (lv := [(0, .ref (ad 86)), (1, .int (mI x1)), (2, .int (mI x2)), (3, .int (mI x3))]) km_X12_tuned.2.2.2.2.2 (Nat.le_of_ble_eq_true rfl) rfl (fun p e s m args below meth c H locs ls X hw hl => ?_)
  obtain ⟨⟨hx, hb, -, -, -⟩, -⟩ := id X
  unfold g_X12_tuned at hf
  refine lv_aload_n hx hb dX12_tuned_0 rfl (lv_at hl 0 rfl) ?_
  refine lv_iload_n hx hb dX12_tuned_1 rfl (lv_at hl 1 rfl) ?_
  refine r_cvi (rest := []) [.int (mI x1)] X hw (fun ra σa h => c_X12_isBox l D cy ad bs F x1 σ ra σa  h) sh_86 rfl (by decide) rfl km_X12_isBox kv_X12_isBox lm_X12_492 dX12_tuned_2 hl.1 rfl rfl (Nat.le_of_ble_eq_true rfl) ⟨by decide, by decide⟩ ⟨Nat.zero_le _, Nat.zero_le _⟩ hf (fun r1 σ2 _ hf H locs hw => ?_)
  refine r_if_eq (tgt := 28) X dX12_tuned_5 (by decide) hf (fun hc hf => ?_) (fun hc hf => ?_)
  · exact w_X12_tuned_b28 X hw (lv_sub hl [0] rfl) hf
  · refine lv_aload_n hx hb dX12_tuned_8 rfl (lv_at hl 0 rfl) ?_
    refine lv_iload_n hx hb dX12_tuned_9 rfl (lv_at hl 2 rfl) ?_
    refine lv_iconst (v := mI 1) hx hb dX12_tuned_10 rfl ?_
    refine lv_bipush (v := mI 60) hx hb dX12_tuned_11 (by decide) ?_
    refine r_cvi (rest := []) [.int (mI x2), .int (mI 1), .int (mI 60)] X hw (fun ra σa h => c_X12_isAhead l D cy ad bs F x2 1 60 σ2 ra σa  h) sh_86 rfl (by decide) rfl km_X12_isAhead kv_X12_isAhead lm_X12_497 dX12_tuned_13 hl.1 rfl rfl (Nat.le_of_ble_eq_true rfl) ⟨by decide, by decide⟩ ⟨Nat.zero_le _, Nat.zero_le _⟩ hf (fun r3 σ4 _ hf H locs hw => ?_)
    refine r_if_eq (tgt := 28) X dX12_tuned_16 (by decide) hf (fun hc hf => ?_) (fun hc hf => ?_)
    · exact w_X12_tuned_b28 X hw (lv_sub hl [0] rfl) hf
    · refine lv_iload_n hx hb dX12_tuned_19 rfl (lv_at hl 3 rfl) ?_
      refine lv_iconst (v := mI 0) hx hb dX12_tuned_20 rfl ?_
      refine lv_iconst (v := mI 2) hx hb dX12_tuned_21 rfl ?_
      refine r_csi (rest := []) [.int (mI x3), .int (mI 0), .int (mI 2)] X hw (fun ra σa h => c_X12_is l D cy ad bs F x3 0 2 σ4 ra σa  h) km_X12_is ks_X12_is lm_X12_318 dX12_tuned_22 hl.1 rfl rfl (Nat.le_of_ble_eq_true rfl) ⟨by decide, by decide⟩ ⟨Nat.zero_le _, Nat.zero_le _⟩ hf (fun r5 σ6 _ hf H locs hw => ?_)
      refine r_if_ne (tgt := 30) X dX12_tuned_25 (by decide) hf (fun hc hf => ?_) (fun hc hf => ?_)
      · refine lv_iconst (v := mI (-1)) hx hb dX12_tuned_30 rfl ?_
        refine lv_istore (lv' := [(4, .int (mI (-1))), (0, .ref (ad 86)), (1, .int (mI x1)), (2, .int (mI x2)), (3, .int (mI x3))]) hx hb dX12_tuned_31 hl (by decide) rfl (fun ls hl => ?_)
        refine lv_iconst (v := mI (-1)) hx hb dX12_tuned_33 rfl ?_
        refine lv_istore (lv' := [(5, .int (mI (-1))), (4, .int (mI (-1))), (0, .ref (ad 86)), (1, .int (mI x1)), (2, .int (mI x2)), (3, .int (mI x3))]) hx hb dX12_tuned_34 hl (by decide) rfl (fun ls hl => ?_)
        refine lv_aload_n hx hb dX12_tuned_36 rfl (lv_at hl 2 rfl) ?_
        refine lv_iload_n hx hb dX12_tuned_37 rfl (lv_at hl 3 rfl) ?_
        refine r_puti X hw sh_86 fd_12_57 fp_12_57 rfl rfl lf_X12_186 dX12_tuned_38 (fun H locs hw => ?_)
        refine r_mem hf hw (fun σ7 hw hf => ?_)
        refine lv_iconst (v := mI 0) hx hb dX12_tuned_41 rfl ?_
        refine lv_istore (lv' := [(6, .int (mI 0)), (5, .int (mI (-1))), (4, .int (mI (-1))), (0, .ref (ad 86)), (1, .int (mI x1)), (2, .int (mI x2)), (3, .int (mI x3))]) hx hb dX12_tuned_42 hl (by decide) rfl (fun ls hl => ?_)
        exact w_X12_tuned_h44 X _ hw (lv_sub hl [3, 4, 5, 6, 2, 1, 0] rfl) hf
      · exact w_X12_tuned_b28 X hw (lv_sub hl [0] rfl) hf
def g_X12_moves_b25 (F : Nat)  (σ : mMem) : mRs := some (0, σ)
set_option maxRecDepth 100000 in
set_option maxHeartbeats 4000000 in
theorem w_X12_moves_b25 {p : Program} {l : Launch} {e : Env} {s : State} {m : MethodId} {args : Array Value} {below : List Frame} {meth : Method} {c : Code} {D : va_G} {cy : Nat → ClassId} {ad : Nat → Nat} {bs : Nat} {F : Nat}  (X : mCx p m c cX12_moves 4 s args RX12 meth D cy none)  {r : Int} {σ' : mMem}    {σ : mMem} {H : Heap} {locs : List Loc} {ls : Array Slot} (hw : mWd D cy ad bs true mN σ s.heap H locs) (hl : lv_has ls 4 [(0, .ref (ad 86))]) (hf : g_X12_moves_b25 F  σ = some (r, σ')) : mGv p l e 1 s m args below meth c D cy ad bs σ' H locs (F0 m 25 ls []) := by
  obtain ⟨⟨hx, hb, -, -, -⟩, -⟩ := id X
  unfold g_X12_moves_b25 at hf
  exact r_vret X hw dX12_moves_25 hf
def g_X12_moves (F : Nat) (x1 x2 x3 : Int) (σ : mMem) : mRs := if 0 ≤ mw ((4 * x1) + x2) ∧ mw ((4 * x1) + x2) < (324 : Int) then if ¬ mw (σ 121 (mw ((4 * x1) + x2)).toNat) = mw (-1) then (g_X12_moves_b25 F σ) else (if 0 ≤ mw ((4 * x1) + x2) ∧ mw ((4 * x1) + x2) < (324 : Int) then mlm (mup σ 121 (mw ((4 * x1) + x2)).toNat x3) (fun σ1 => g_X12_moves_b25 F σ1) else none) else none
set_option maxRecDepth 100000 in
set_option maxHeartbeats 4000000 in
theorem c_X12_moves (l : Launch) (D : va_G) (cy : Nat → ClassId) (ad : Nat → Nat) (bs : Nat) (F : Nat)  (x1 x2 x3 : Int) (σ : mMem) (r : Int) (σ' : mMem)  (hf : g_X12_moves F x1 x2 x3 σ = some (r, σ')) : mCv l D cy ad bs yX12_moves cX12_moves 4 none 1 [.ref (ad 86), .int (mI x1), .int (mI x2), .int (mI x3)] σ σ' := by
  refine mCv.of (lv := [(0, .ref (ad 86)), (1, .int (mI x1)), (2, .int (mI x2)), (3, .int (mI x3))]) km_X12_moves.2.2.2.2.2 (Nat.le_of_ble_eq_true rfl) rfl (fun p e s m args below meth c H locs ls X hw hl => ?_)
  obtain ⟨⟨hx, hb, -, -, -⟩, -⟩ := id X
  unfold g_X12_moves at hf
  refine lv_aload_n hx hb dX12_moves_0 rfl (lv_at hl 0 rfl) ?_
  refine r_getr 121 X hw sh_86 fd_12_65 rfl rfl lf_X12_210 dX12_moves_1 ?_
  refine lv_iconst (v := mI 4) hx hb dX12_moves_4 rfl ?_
  refine lv_iload_n hx hb dX12_moves_5 rfl (lv_at hl 1 rfl) ?_
  refine r_imul X dX12_moves_6 ?_
  refine lv_iload_n hx hb dX12_moves_7 rfl (lv_at hl 2 rfl) ?_
  refine r_iadd X dX12_moves_8 ?_
  refine r_iald (324 : Int) rfl X hw sh_121 dX12_moves_9 hf (fun hf => ?_)
  refine lv_iconst (v := mI (-1)) hx hb dX12_moves_10 rfl ?_
  refine r_icmp_ne (tgt := 25) X dX12_moves_11 (by decide) hf (fun hc hf => ?_) (fun hc hf => ?_)
  · exact w_X12_moves_b25 X hw (lv_sub hl [0] rfl) hf
  · refine lv_aload_n hx hb dX12_moves_14 rfl (lv_at hl 0 rfl) ?_
    refine r_getr 121 X hw sh_86 fd_12_65 rfl rfl lf_X12_210 dX12_moves_15 ?_
    refine lv_iconst (v := mI 4) hx hb dX12_moves_18 rfl ?_
    refine lv_iload_n hx hb dX12_moves_19 rfl (lv_at hl 1 rfl) ?_
    refine r_imul X dX12_moves_20 ?_
    refine lv_iload_n hx hb dX12_moves_21 rfl (lv_at hl 2 rfl) ?_
    refine r_iadd X dX12_moves_22 ?_
    refine lv_iload_n hx hb dX12_moves_23 rfl (lv_at hl 3 rfl) ?_
    refine r_iast (324 : Int) rfl X hw sh_121 dX12_moves_24 hf (fun hf H locs hw => ?_)
    refine r_mem hf hw (fun σ1 hw hf => ?_)
    exact w_X12_moves_b25 X hw (lv_sub hl [0] rfl) hf
def g_X12_found_b206 (F : Nat) (k51 : Int → Int → mMem → mRs) (k98 : Int → Int → Int → mMem → mRs) (x1 x2 x3 : Int) (σ : mMem) : mRs := k98 x1 x2 (x3 + 1) σ
set_option maxRecDepth 100000 in
set_option maxHeartbeats 4000000 in
theorem w_X12_found_b206 {p : Program} {l : Launch} {e : Env} {s : State} {m : MethodId} {args : Array Value} {below : List Frame} {meth : Method} {c : Code} {D : va_G} {cy : Nat → ClassId} {ad : Nat → Nat} {bs : Nat} {F : Nat}  (X : mCx p m c cX12_found 5 s args RX12 meth D cy (some .int))  {r : Int} {σ' : mMem} {k51 : Int → Int → mMem → mRs} {k98 : Int → Int → Int → mMem → mRs} (hk51 : ∀ (x1 x2 : Int) (σ : mMem) (H : Heap) (locs : List Loc) (ls : Array Slot), mWd D cy ad bs true mN σ s.heap H locs → lv_has ls 5 [(0, .ref (ad 86)), (1, .int (mI x1)), (2, .int (mI x2))] → k51 x1 x2 σ = some (r, σ') → mGi p l e 4 s m args below meth c D cy ad bs r σ' H locs (F0 m 51 ls [])) (hk98 : ∀ (x1 x2 x3 : Int) (σ : mMem) (H : Heap) (locs : List Loc) (ls : Array Slot), mWd D cy ad bs true mN σ s.heap H locs → lv_has ls 5 [(0, .ref (ad 86)), (1, .int (mI x1)), (2, .int (mI x2)), (3, .int (mI x3))] → k98 x1 x2 x3 σ = some (r, σ') → mGi p l e 4 s m args below meth c D cy ad bs r σ' H locs (F0 m 98 ls [])) {x1 x2 x3 : Int} {σ : mMem} {H : Heap} {locs : List Loc} {ls : Array Slot} (hw : mWd D cy ad bs true mN σ s.heap H locs) (hl : lv_has ls 5 [(0, .ref (ad 86)), (1, .int (mI x1)), (2, .int (mI x2)), (3, .int (mI x3))]) (hf : g_X12_found_b206 F k51 k98 x1 x2 x3 σ = some (r, σ')) : mGi p l e 4 s m args below meth c D cy ad bs r σ' H locs (F0 m 206 ls []) := by
  obtain ⟨⟨hx, hb, -, -, -⟩, -⟩ := id X
  unfold g_X12_found_b206 at hf
  refine lv_iinc (v := mI (x3 + 1)) (lv' := [(3, .int (mI (x3 + 1))), (0, .ref (ad 86)), (1, .int (mI x1)), (2, .int (mI x2))]) hx hb dX12_found_206 hl (k := 3) rfl (mI_add _ _) (by decide) rfl (fun ls hl => ?_)
  refine lv_goto (tgt := 98) hx hb dX12_found_209 (by decide) ?_
  exact hk98 x1 x2 (x3 + 1) σ _ _ _ hw (lv_sub hl [1, 2, 3, 0] rfl) hf
def g_X12_found_b194 (F : Nat) (k51 : Int → Int → mMem → mRs) (k98 : Int → Int → Int → mMem → mRs) (x1 x2 x3 x4 : Int) (σ : mMem) : mRs := if mw 4 = 0 then none else (mob (g_X12_moves F x4 ((mw x3).tmod (mw 4)) (x2 + 1) σ) (fun r718 σ719 => g_X12_found_b206 F k51 k98 x1 x2 x3 σ719))
set_option maxRecDepth 100000 in
set_option maxHeartbeats 4000000 in
theorem w_X12_found_b194 {p : Program} {l : Launch} {e : Env} {s : State} {m : MethodId} {args : Array Value} {below : List Frame} {meth : Method} {c : Code} {D : va_G} {cy : Nat → ClassId} {ad : Nat → Nat} {bs : Nat} {F : Nat}  (X : mCx p m c cX12_found 5 s args RX12 meth D cy (some .int))  {r : Int} {σ' : mMem} {k51 : Int → Int → mMem → mRs} {k98 : Int → Int → Int → mMem → mRs} (hk51 : ∀ (x1 x2 : Int) (σ : mMem) (H : Heap) (locs : List Loc) (ls : Array Slot), mWd D cy ad bs true mN σ s.heap H locs → lv_has ls 5 [(0, .ref (ad 86)), (1, .int (mI x1)), (2, .int (mI x2))] → k51 x1 x2 σ = some (r, σ') → mGi p l e 4 s m args below meth c D cy ad bs r σ' H locs (F0 m 51 ls [])) (hk98 : ∀ (x1 x2 x3 : Int) (σ : mMem) (H : Heap) (locs : List Loc) (ls : Array Slot), mWd D cy ad bs true mN σ s.heap H locs → lv_has ls 5 [(0, .ref (ad 86)), (1, .int (mI x1)), (2, .int (mI x2)), (3, .int (mI x3))] → k98 x1 x2 x3 σ = some (r, σ') → mGi p l e 4 s m args below meth c D cy ad bs r σ' H locs (F0 m 98 ls [])) {x1 x2 x3 x4 : Int} {σ : mMem} {H : Heap} {locs : List Loc} {ls : Array Slot} (hw : mWd D cy ad bs true mN σ s.heap H locs) (hl : lv_has ls 5 [(0, .ref (ad 86)), (1, .int (mI x1)), (2, .int (mI x2)), (3, .int (mI x3)), (4, .int (mI x4))]) (hf : g_X12_found_b194 F k51 k98 x1 x2 x3 x4 σ = some (r, σ')) : mGi p l e 4 s m args below meth c D cy ad bs r σ' H locs (F0 m 194 ls []) := by
  obtain ⟨⟨hx, hb, -, -, -⟩, -⟩ := id X
  unfold g_X12_found_b194 at hf
  refine lv_aload_n hx hb dX12_found_194 rfl (lv_at hl 0 rfl) ?_
  refine lv_iload hx hb dX12_found_195 (lv_at hl 4 rfl) ?_
  refine lv_iload_n hx hb dX12_found_197 rfl (lv_at hl 3 rfl) ?_
  refine lv_iconst (v := mI 4) hx hb dX12_found_198 rfl ?_
  refine r_irem X dX12_found_199 hf (fun hf => ?_)
  refine lv_iload_n hx hb dX12_found_200 rfl (lv_at hl 2 rfl) ?_
  refine lv_iconst (v := mI 1) hx hb dX12_found_201 rfl ?_
  refine r_iadd X dX12_found_202 ?_
  refine r_cvv (rest := []) [.int (mI x4), .int (mI ((mw x3).tmod (mw 4))), .int (mI (x2 + 1))] X hw (fun ra σa h => c_X12_moves l D cy ad bs F x4 ((mw x3).tmod (mw 4)) (x2 + 1) σ ra σa  h) sh_86 rfl (by decide) rfl km_X12_moves kv_X12_moves lm_X12_506 dX12_found_203 hl.1 rfl rfl (Nat.le_of_ble_eq_true rfl) ⟨by decide, by decide⟩ ⟨Nat.zero_le _, Nat.zero_le _⟩ hf (fun r718 σ719 _ hf H locs hw => ?_)
  exact w_X12_found_b206 X hk51 hk98 hw (lv_sub hl [0, 1, 2, 3] rfl) hf
def g_X12_found_h98 (F : Nat) (k51 : Int → Int → mMem → mRs) : Nat → Int → Int → Int → mMem → mRs
  | 0, _, _, _, _ => none
  | n + 1, x1, x2, x3, σ => if mw 324 ≤ mw x3 then (k51 x1 (x2 + 1) σ) else (if 0 ≤ mw x3 ∧ mw x3 < (324 : Int) then if mw (σ 121 (mw x3).toNat) = mw x2 then (if mw 4 = 0 then none else (if mw 4 = 0 then none else (mob (g_X12_off F ((mw x3).tdiv (mw 4)) ((mw x3).tmod (mw 4)) 1 0 σ) (fun r408 σ409 => if mw 4 = 0 then none else (if mw 4 = 0 then none else (if mw 4 = 0 then none else (mob (g_X12_moves F ((mw x3).tdiv (mw 4)) ((mw (((mw x3).tmod (mw 4)) + 1)).tmod (mw 4)) (x2 + 1) σ409) (fun r410 σ411 => if mw 4 = 0 then none else (if mw 4 = 0 then none else (if mw 4 = 0 then none else (mob (g_X12_moves F ((mw x3).tdiv (mw 4)) ((mw (((mw x3).tmod (mw 4)) + 3)).tmod (mw 4)) (x2 + 1) σ411) (fun r412 σ413 => if mw r408 = mw (-1) then (g_X12_found_b206 F k51 (g_X12_found_h98 F k51 n) x1 x2 x3 σ413) else (mob (g_X12_who F 0 r408 σ413) (fun r414 σ415 => if mw r414 = mw (-1) then (g_X12_found_b194 F k51 (g_X12_found_h98 F k51 n) x1 x2 x3 r408 σ415) else (mob (g_X12_who F 0 r408 σ415) (fun r416 σ417 => if ¬ mw r416 = mw x1 then (g_X12_found_b206 F k51 (g_X12_found_h98 F k51 n) x1 x2 x3 σ417) else (g_X12_found_b194 F k51 (g_X12_found_h98 F k51 n) x1 x2 x3 r408 σ417))))))))))))))))) else (g_X12_found_b206 F k51 (g_X12_found_h98 F k51 n) x1 x2 x3 σ) else none)
set_option maxRecDepth 100000 in
set_option maxHeartbeats 4000000 in
theorem w_X12_found_h98 {p : Program} {l : Launch} {e : Env} {s : State} {m : MethodId} {args : Array Value} {below : List Frame} {meth : Method} {c : Code} {D : va_G} {cy : Nat → ClassId} {ad : Nat → Nat} {bs : Nat} {F : Nat}  (X : mCx p m c cX12_found 5 s args RX12 meth D cy (some .int))  {r : Int} {σ' : mMem} {k51 : Int → Int → mMem → mRs} (hk51 : ∀ (x1 x2 : Int) (σ : mMem) (H : Heap) (locs : List Loc) (ls : Array Slot), mWd D cy ad bs true mN σ s.heap H locs → lv_has ls 5 [(0, .ref (ad 86)), (1, .int (mI x1)), (2, .int (mI x2))] → k51 x1 x2 σ = some (r, σ') → mGi p l e 4 s m args below meth c D cy ad bs r σ' H locs (F0 m 51 ls [])) (n : Nat) : ∀ {x1 x2 x3 : Int} {σ : mMem} {H : Heap} {locs : List Loc} {ls : Array Slot} (_ : mWd D cy ad bs true mN σ s.heap H locs) (_ : lv_has ls 5 [(0, .ref (ad 86)), (1, .int (mI x1)), (2, .int (mI x2)), (3, .int (mI x3))]) (_ : g_X12_found_h98 F k51 n x1 x2 x3 σ = some (r, σ')), mGi p l e 4 s m args below meth c D cy ad bs r σ' H locs (F0 m 98 ls []) := by
  obtain ⟨⟨hx, hb, -, -, -⟩, -⟩ := id X
  induction n with
  | zero =>
    intro x1 x2 x3 σ H locs ls hw hl hf
    unfold g_X12_found_h98 at hf
    cases hf
  | succ n ih =>
    have hk98 : ∀ (x1 x2 x3 : Int) (σ : mMem) (H : Heap) (locs : List Loc) (ls : Array Slot), mWd D cy ad bs true mN σ s.heap H locs → lv_has ls 5 [(0, .ref (ad 86)), (1, .int (mI x1)), (2, .int (mI x2)), (3, .int (mI x3))] → g_X12_found_h98 F k51 n x1 x2 x3 σ = some (r, σ') → mGi p l e 4 s m args below meth c D cy ad bs r σ' H locs (F0 m 98 ls []) := fun x1 x2 x3 σ H locs ls hw hl hf => ih hw hl hf
    intro x1 x2 x3 σ H locs ls hw hl hf
    unfold g_X12_found_h98 at hf
    refine lv_iload_n hx hb dX12_found_98 rfl (lv_at hl 3 rfl) ?_
    refine lv_sipush (v := mI 324) hx hb dX12_found_99 (by decide) ?_
    refine r_icmp_ge (tgt := 212) X dX12_found_102 (by decide) hf (fun hc hf => ?_) (fun hc hf => ?_)
    · refine lv_iinc (v := mI (x2 + 1)) (lv' := [(2, .int (mI (x2 + 1))), (0, .ref (ad 86)), (1, .int (mI x1)), (3, .int (mI x3))]) hx hb dX12_found_212 hl (k := 2) rfl (mI_add _ _) (by decide) rfl (fun ls hl => ?_)
      refine lv_goto (tgt := 51) hx hb dX12_found_215 (by decide) ?_
      exact hk51 x1 (x2 + 1) σ _ _ _ hw (lv_sub hl [1, 2, 0] rfl) hf
    · refine lv_aload_n hx hb dX12_found_105 rfl (lv_at hl 0 rfl) ?_
      refine r_getr 121 X hw sh_86 fd_12_65 rfl rfl lf_X12_210 dX12_found_106 ?_
      refine lv_iload_n hx hb dX12_found_109 rfl (lv_at hl 3 rfl) ?_
      refine r_iald (324 : Int) rfl X hw sh_121 dX12_found_110 hf (fun hf => ?_)
      refine lv_iload_n hx hb dX12_found_111 rfl (lv_at hl 2 rfl) ?_
      refine r_icmp_eq (tgt := 118) X dX12_found_112 (by decide) hf (fun hc hf => ?_) (fun hc hf => ?_)
      · refine lv_aload_n hx hb dX12_found_118 rfl (lv_at hl 0 rfl) ?_
        refine lv_iload_n hx hb dX12_found_119 rfl (lv_at hl 3 rfl) ?_
        refine lv_iconst (v := mI 4) hx hb dX12_found_120 rfl ?_
        refine r_idiv X dX12_found_121 hf (fun hf => ?_)
        refine lv_iload_n hx hb dX12_found_122 rfl (lv_at hl 3 rfl) ?_
        refine lv_iconst (v := mI 4) hx hb dX12_found_123 rfl ?_
        refine r_irem X dX12_found_124 hf (fun hf => ?_)
        refine lv_iconst (v := mI 1) hx hb dX12_found_125 rfl ?_
        refine lv_iconst (v := mI 0) hx hb dX12_found_126 rfl ?_
        refine r_cvi (rest := []) [.int (mI ((mw x3).tdiv (mw 4))), .int (mI ((mw x3).tmod (mw 4))), .int (mI 1), .int (mI 0)] X hw (fun ra σa h => c_X12_off l D cy ad bs F ((mw x3).tdiv (mw 4)) ((mw x3).tmod (mw 4)) 1 0 σ ra σa  h) sh_86 rfl (by decide) rfl km_X12_off kv_X12_off lm_X12_459 dX12_found_127 hl.1 rfl rfl (Nat.le_of_ble_eq_true rfl) ⟨by decide, by decide⟩ ⟨Nat.zero_le _, Nat.zero_le _⟩ hf (fun r408 σ409 _ hf H locs hw => ?_)
        refine lv_istore (lv' := [(4, .int (mI r408)), (0, .ref (ad 86)), (1, .int (mI x1)), (2, .int (mI x2)), (3, .int (mI x3))]) hx hb dX12_found_130 hl (by decide) rfl (fun ls hl => ?_)
        refine lv_aload_n hx hb dX12_found_132 rfl (lv_at hl 1 rfl) ?_
        refine lv_iload_n hx hb dX12_found_133 rfl (lv_at hl 4 rfl) ?_
        refine lv_iconst (v := mI 4) hx hb dX12_found_134 rfl ?_
        refine r_idiv X dX12_found_135 hf (fun hf => ?_)
        refine lv_iload_n hx hb dX12_found_136 rfl (lv_at hl 4 rfl) ?_
        refine lv_iconst (v := mI 4) hx hb dX12_found_137 rfl ?_
        refine r_irem X dX12_found_138 hf (fun hf => ?_)
        refine lv_iconst (v := mI 1) hx hb dX12_found_139 rfl ?_
        refine r_iadd X dX12_found_140 ?_
        refine lv_iconst (v := mI 4) hx hb dX12_found_141 rfl ?_
        refine r_irem X dX12_found_142 hf (fun hf => ?_)
        refine lv_iload_n hx hb dX12_found_143 rfl (lv_at hl 3 rfl) ?_
        refine lv_iconst (v := mI 1) hx hb dX12_found_144 rfl ?_
        refine r_iadd X dX12_found_145 ?_
        refine r_cvv (rest := []) [.int (mI ((mw x3).tdiv (mw 4))), .int (mI ((mw (((mw x3).tmod (mw 4)) + 1)).tmod (mw 4))), .int (mI (x2 + 1))] X hw (fun ra σa h => c_X12_moves l D cy ad bs F ((mw x3).tdiv (mw 4)) ((mw (((mw x3).tmod (mw 4)) + 1)).tmod (mw 4)) (x2 + 1) σ409 ra σa  h) sh_86 rfl (by decide) rfl km_X12_moves kv_X12_moves lm_X12_506 dX12_found_146 hl.1 rfl rfl (Nat.le_of_ble_eq_true rfl) ⟨by decide, by decide⟩ ⟨Nat.zero_le _, Nat.zero_le _⟩ hf (fun r410 σ411 _ hf H locs hw => ?_)
        refine lv_aload_n hx hb dX12_found_149 rfl (lv_at hl 1 rfl) ?_
        refine lv_iload_n hx hb dX12_found_150 rfl (lv_at hl 4 rfl) ?_
        refine lv_iconst (v := mI 4) hx hb dX12_found_151 rfl ?_
        refine r_idiv X dX12_found_152 hf (fun hf => ?_)
        refine lv_iload_n hx hb dX12_found_153 rfl (lv_at hl 4 rfl) ?_
        refine lv_iconst (v := mI 4) hx hb dX12_found_154 rfl ?_
        refine r_irem X dX12_found_155 hf (fun hf => ?_)
        refine lv_iconst (v := mI 3) hx hb dX12_found_156 rfl ?_
        refine r_iadd X dX12_found_157 ?_
        refine lv_iconst (v := mI 4) hx hb dX12_found_158 rfl ?_
        refine r_irem X dX12_found_159 hf (fun hf => ?_)
        refine lv_iload_n hx hb dX12_found_160 rfl (lv_at hl 3 rfl) ?_
        refine lv_iconst (v := mI 1) hx hb dX12_found_161 rfl ?_
        refine r_iadd X dX12_found_162 ?_
        refine r_cvv (rest := []) [.int (mI ((mw x3).tdiv (mw 4))), .int (mI ((mw (((mw x3).tmod (mw 4)) + 3)).tmod (mw 4))), .int (mI (x2 + 1))] X hw (fun ra σa h => c_X12_moves l D cy ad bs F ((mw x3).tdiv (mw 4)) ((mw (((mw x3).tmod (mw 4)) + 3)).tmod (mw 4)) (x2 + 1) σ411 ra σa  h) sh_86 rfl (by decide) rfl km_X12_moves kv_X12_moves lm_X12_506 dX12_found_163 hl.1 rfl rfl (Nat.le_of_ble_eq_true rfl) ⟨by decide, by decide⟩ ⟨Nat.zero_le _, Nat.zero_le _⟩ hf (fun r412 σ413 _ hf H locs hw => ?_)
        refine lv_iload hx hb dX12_found_166 (lv_at hl 0 rfl) ?_
        refine lv_iconst (v := mI (-1)) hx hb dX12_found_168 rfl ?_
        refine r_icmp_eq (tgt := 206) X dX12_found_169 (by decide) hf (fun hc hf => ?_) (fun hc hf => ?_)
        · exact w_X12_found_b206 X hk51 hk98 hw (lv_sub hl [1, 2, 3, 4] rfl) hf
        · refine lv_aload_n hx hb dX12_found_172 rfl (lv_at hl 1 rfl) ?_
          refine lv_iconst (v := mI 0) hx hb dX12_found_173 rfl ?_
          refine lv_iload hx hb dX12_found_174 (lv_at hl 0 rfl) ?_
          refine r_cvi (rest := []) [.int (mI 0), .int (mI r408)] X hw (fun ra σa h => c_X12_who l D cy ad bs F 0 r408 σ413 ra σa  h) sh_86 rfl (by decide) rfl km_X12_who kv_X12_who lm_X12_477 dX12_found_176 hl.1 rfl rfl (Nat.le_of_ble_eq_true rfl) ⟨by decide, by decide⟩ ⟨Nat.zero_le _, Nat.zero_le _⟩ hf (fun r414 σ415 _ hf H locs hw => ?_)
          refine lv_iconst (v := mI (-1)) hx hb dX12_found_179 rfl ?_
          refine r_icmp_eq (tgt := 194) X dX12_found_180 (by decide) hf (fun hc hf => ?_) (fun hc hf => ?_)
          · exact w_X12_found_b194 X hk51 hk98 hw (lv_sub hl [1, 2, 3, 4, 0] rfl) hf
          · refine lv_aload_n hx hb dX12_found_183 rfl (lv_at hl 1 rfl) ?_
            refine lv_iconst (v := mI 0) hx hb dX12_found_184 rfl ?_
            refine lv_iload hx hb dX12_found_185 (lv_at hl 0 rfl) ?_
            refine r_cvi (rest := []) [.int (mI 0), .int (mI r408)] X hw (fun ra σa h => c_X12_who l D cy ad bs F 0 r408 σ415 ra σa  h) sh_86 rfl (by decide) rfl km_X12_who kv_X12_who lm_X12_477 dX12_found_187 hl.1 rfl rfl (Nat.le_of_ble_eq_true rfl) ⟨by decide, by decide⟩ ⟨Nat.zero_le _, Nat.zero_le _⟩ hf (fun r416 σ417 _ hf H locs hw => ?_)
            refine lv_iload_n hx hb dX12_found_190 rfl (lv_at hl 2 rfl) ?_
            refine r_icmp_ne (tgt := 206) X dX12_found_191 (by decide) hf (fun hc hf => ?_) (fun hc hf => ?_)
            · exact w_X12_found_b206 X hk51 hk98 hw (lv_sub hl [1, 2, 3, 4] rfl) hf
            · exact w_X12_found_b194 X hk51 hk98 hw (lv_sub hl [1, 2, 3, 4, 0] rfl) hf
      · refine lv_goto (tgt := 206) hx hb dX12_found_115 (by decide) ?_
        exact w_X12_found_b206 X hk51 hk98 hw (lv_sub hl [0, 1, 2, 3] rfl) hf
def g_X12_found_b90 (F : Nat) (k51 : Int → Int → mMem → mRs) (k60 : Int → Int → Int → mMem → mRs) (x1 x2 x3 : Int) (σ : mMem) : mRs := k60 x1 x2 (x3 + 1) σ
set_option maxRecDepth 100000 in
set_option maxHeartbeats 4000000 in
theorem w_X12_found_b90 {p : Program} {l : Launch} {e : Env} {s : State} {m : MethodId} {args : Array Value} {below : List Frame} {meth : Method} {c : Code} {D : va_G} {cy : Nat → ClassId} {ad : Nat → Nat} {bs : Nat} {F : Nat}  (X : mCx p m c cX12_found 5 s args RX12 meth D cy (some .int))  {r : Int} {σ' : mMem} {k51 : Int → Int → mMem → mRs} {k60 : Int → Int → Int → mMem → mRs} (hk51 : ∀ (x1 x2 : Int) (σ : mMem) (H : Heap) (locs : List Loc) (ls : Array Slot), mWd D cy ad bs true mN σ s.heap H locs → lv_has ls 5 [(0, .ref (ad 86)), (1, .int (mI x1)), (2, .int (mI x2))] → k51 x1 x2 σ = some (r, σ') → mGi p l e 4 s m args below meth c D cy ad bs r σ' H locs (F0 m 51 ls [])) (hk60 : ∀ (x1 x2 x3 : Int) (σ : mMem) (H : Heap) (locs : List Loc) (ls : Array Slot), mWd D cy ad bs true mN σ s.heap H locs → lv_has ls 5 [(0, .ref (ad 86)), (1, .int (mI x1)), (2, .int (mI x2)), (3, .int (mI x3))] → k60 x1 x2 x3 σ = some (r, σ') → mGi p l e 4 s m args below meth c D cy ad bs r σ' H locs (F0 m 60 ls [])) {x1 x2 x3 : Int} {σ : mMem} {H : Heap} {locs : List Loc} {ls : Array Slot} (hw : mWd D cy ad bs true mN σ s.heap H locs) (hl : lv_has ls 5 [(0, .ref (ad 86)), (1, .int (mI x1)), (2, .int (mI x2)), (3, .int (mI x3))]) (hf : g_X12_found_b90 F k51 k60 x1 x2 x3 σ = some (r, σ')) : mGi p l e 4 s m args below meth c D cy ad bs r σ' H locs (F0 m 90 ls []) := by
  obtain ⟨⟨hx, hb, -, -, -⟩, -⟩ := id X
  unfold g_X12_found_b90 at hf
  refine lv_iinc (v := mI (x3 + 1)) (lv' := [(3, .int (mI (x3 + 1))), (0, .ref (ad 86)), (1, .int (mI x1)), (2, .int (mI x2))]) hx hb dX12_found_90 hl (k := 3) rfl (mI_add _ _) (by decide) rfl (fun ls hl => ?_)
  refine lv_goto (tgt := 60) hx hb dX12_found_93 (by decide) ?_
  exact hk60 x1 x2 (x3 + 1) σ _ _ _ hw (lv_sub hl [1, 2, 3, 0] rfl) hf
def g_X12_found_h60 (F : Nat) (k51 : Int → Int → mMem → mRs) : Nat → Int → Int → Int → mMem → mRs
  | 0, _, _, _, _ => none
  | n + 1, x1, x2, x3, σ => if mw 324 ≤ mw x3 then (g_X12_found_h98 F k51 F x1 x2 0 σ) else (if 0 ≤ mw x3 ∧ mw x3 < (324 : Int) then if ¬ mw (σ 121 (mw x3).toNat) = mw x2 then (g_X12_found_b90 F k51 (g_X12_found_h60 F k51 n) x1 x2 x3 σ) else (if mw 4 = 0 then none else (mob (g_X12_isBlack F 0 ((mw x3).tdiv (mw 4)) σ) (fun r306 σ307 => if mw r306 = 0 then (g_X12_found_b90 F k51 (g_X12_found_h60 F k51 n) x1 x2 x3 σ307) else (some (x2, σ307))))) else none)
set_option maxRecDepth 100000 in
set_option maxHeartbeats 4000000 in
theorem w_X12_found_h60 {p : Program} {l : Launch} {e : Env} {s : State} {m : MethodId} {args : Array Value} {below : List Frame} {meth : Method} {c : Code} {D : va_G} {cy : Nat → ClassId} {ad : Nat → Nat} {bs : Nat} {F : Nat}  (X : mCx p m c cX12_found 5 s args RX12 meth D cy (some .int))  {r : Int} {σ' : mMem} {k51 : Int → Int → mMem → mRs} (hk51 : ∀ (x1 x2 : Int) (σ : mMem) (H : Heap) (locs : List Loc) (ls : Array Slot), mWd D cy ad bs true mN σ s.heap H locs → lv_has ls 5 [(0, .ref (ad 86)), (1, .int (mI x1)), (2, .int (mI x2))] → k51 x1 x2 σ = some (r, σ') → mGi p l e 4 s m args below meth c D cy ad bs r σ' H locs (F0 m 51 ls [])) (n : Nat) : ∀ {x1 x2 x3 : Int} {σ : mMem} {H : Heap} {locs : List Loc} {ls : Array Slot} (_ : mWd D cy ad bs true mN σ s.heap H locs) (_ : lv_has ls 5 [(0, .ref (ad 86)), (1, .int (mI x1)), (2, .int (mI x2)), (3, .int (mI x3))]) (_ : g_X12_found_h60 F k51 n x1 x2 x3 σ = some (r, σ')), mGi p l e 4 s m args below meth c D cy ad bs r σ' H locs (F0 m 60 ls []) := by
  obtain ⟨⟨hx, hb, -, -, -⟩, -⟩ := id X
  induction n with
  | zero =>
    intro x1 x2 x3 σ H locs ls hw hl hf
    unfold g_X12_found_h60 at hf
    cases hf
  | succ n ih =>
    have hk60 : ∀ (x1 x2 x3 : Int) (σ : mMem) (H : Heap) (locs : List Loc) (ls : Array Slot), mWd D cy ad bs true mN σ s.heap H locs → lv_has ls 5 [(0, .ref (ad 86)), (1, .int (mI x1)), (2, .int (mI x2)), (3, .int (mI x3))] → g_X12_found_h60 F k51 n x1 x2 x3 σ = some (r, σ') → mGi p l e 4 s m args below meth c D cy ad bs r σ' H locs (F0 m 60 ls []) := fun x1 x2 x3 σ H locs ls hw hl hf => ih hw hl hf
    intro x1 x2 x3 σ H locs ls hw hl hf
    unfold g_X12_found_h60 at hf
    refine lv_iload_n hx hb dX12_found_60 rfl (lv_at hl 3 rfl) ?_
    refine lv_sipush (v := mI 324) hx hb dX12_found_61 (by decide) ?_
    refine r_icmp_ge (tgt := 96) X dX12_found_64 (by decide) hf (fun hc hf => ?_) (fun hc hf => ?_)
    · refine lv_iconst (v := mI 0) hx hb dX12_found_96 rfl ?_
      refine lv_istore_n (lv' := [(3, .int (mI 0)), (0, .ref (ad 86)), (1, .int (mI x1)), (2, .int (mI x2))]) hx hb dX12_found_97 rfl hl (by decide) rfl (fun ls hl => ?_)
      exact w_X12_found_h98 X hk51 _ hw (lv_sub hl [1, 2, 3, 0] rfl) hf
    · refine lv_aload_n hx hb dX12_found_67 rfl (lv_at hl 0 rfl) ?_
      refine r_getr 121 X hw sh_86 fd_12_65 rfl rfl lf_X12_210 dX12_found_68 ?_
      refine lv_iload_n hx hb dX12_found_71 rfl (lv_at hl 3 rfl) ?_
      refine r_iald (324 : Int) rfl X hw sh_121 dX12_found_72 hf (fun hf => ?_)
      refine lv_iload_n hx hb dX12_found_73 rfl (lv_at hl 2 rfl) ?_
      refine r_icmp_ne (tgt := 90) X dX12_found_74 (by decide) hf (fun hc hf => ?_) (fun hc hf => ?_)
      · exact w_X12_found_b90 X hk51 hk60 hw (lv_sub hl [0, 1, 2, 3] rfl) hf
      · refine lv_aload_n hx hb dX12_found_77 rfl (lv_at hl 0 rfl) ?_
        refine lv_iconst (v := mI 0) hx hb dX12_found_78 rfl ?_
        refine lv_iload_n hx hb dX12_found_79 rfl (lv_at hl 3 rfl) ?_
        refine lv_iconst (v := mI 4) hx hb dX12_found_80 rfl ?_
        refine r_idiv X dX12_found_81 hf (fun hf => ?_)
        refine r_cvi (rest := []) [.int (mI 0), .int (mI ((mw x3).tdiv (mw 4)))] X hw (fun ra σa h => c_X12_isBlack l D cy ad bs F 0 ((mw x3).tdiv (mw 4)) σ ra σa  h) sh_86 rfl (by decide) rfl km_X12_isBlack kv_X12_isBlack lm_X12_489 dX12_found_82 hl.1 rfl rfl (Nat.le_of_ble_eq_true rfl) ⟨by decide, by decide⟩ ⟨Nat.zero_le _, Nat.zero_le _⟩ hf (fun r306 σ307 _ hf H locs hw => ?_)
        refine r_if_eq (tgt := 90) X dX12_found_85 (by decide) hf (fun hc hf => ?_) (fun hc hf => ?_)
        · exact w_X12_found_b90 X hk51 hk60 hw (lv_sub hl [0, 1, 2, 3] rfl) hf
        · refine lv_iload_n hx hb dX12_found_88 rfl (lv_at hl 2 rfl) ?_
          exact r_iret X hw dX12_found_89 hf
def g_X12_found_h51 (F : Nat)  : Nat → Int → Int → mMem → mRs
  | 0, _, _, _ => none
  | n + 1, x1, x2, σ => if mw 324 ≤ mw x2 then (some ((-1), σ)) else (g_X12_found_h60 F (g_X12_found_h51 F n) F x1 x2 0 σ)
set_option maxRecDepth 100000 in
set_option maxHeartbeats 4000000 in
theorem w_X12_found_h51 {p : Program} {l : Launch} {e : Env} {s : State} {m : MethodId} {args : Array Value} {below : List Frame} {meth : Method} {c : Code} {D : va_G} {cy : Nat → ClassId} {ad : Nat → Nat} {bs : Nat} {F : Nat}  (X : mCx p m c cX12_found 5 s args RX12 meth D cy (some .int))  {r : Int} {σ' : mMem}   (n : Nat) : ∀ {x1 x2 : Int} {σ : mMem} {H : Heap} {locs : List Loc} {ls : Array Slot} (_ : mWd D cy ad bs true mN σ s.heap H locs) (_ : lv_has ls 5 [(0, .ref (ad 86)), (1, .int (mI x1)), (2, .int (mI x2))]) (_ : g_X12_found_h51 F n x1 x2 σ = some (r, σ')), mGi p l e 4 s m args below meth c D cy ad bs r σ' H locs (F0 m 51 ls []) := by
  obtain ⟨⟨hx, hb, -, -, -⟩, -⟩ := id X
  induction n with
  | zero =>
    intro x1 x2 σ H locs ls hw hl hf
    unfold g_X12_found_h51 at hf
    cases hf
  | succ n ih =>
    have hk51 : ∀ (x1 x2 : Int) (σ : mMem) (H : Heap) (locs : List Loc) (ls : Array Slot), mWd D cy ad bs true mN σ s.heap H locs → lv_has ls 5 [(0, .ref (ad 86)), (1, .int (mI x1)), (2, .int (mI x2))] → g_X12_found_h51 F n x1 x2 σ = some (r, σ') → mGi p l e 4 s m args below meth c D cy ad bs r σ' H locs (F0 m 51 ls []) := fun x1 x2 σ H locs ls hw hl hf => ih hw hl hf
    intro x1 x2 σ H locs ls hw hl hf
    unfold g_X12_found_h51 at hf
    refine lv_iload_n hx hb dX12_found_51 rfl (lv_at hl 2 rfl) ?_
    refine lv_sipush (v := mI 324) hx hb dX12_found_52 (by decide) ?_
    refine r_icmp_ge (tgt := 218) X dX12_found_55 (by decide) hf (fun hc hf => ?_) (fun hc hf => ?_)
    · refine lv_iconst (v := mI (-1)) hx hb dX12_found_218 rfl ?_
      exact r_iret X hw dX12_found_219 hf
    · refine lv_iconst (v := mI 0) hx hb dX12_found_58 rfl ?_
      refine lv_istore_n (lv' := [(3, .int (mI 0)), (0, .ref (ad 86)), (1, .int (mI x1)), (2, .int (mI x2))]) hx hb dX12_found_59 rfl hl (by decide) rfl (fun ls hl => ?_)
      exact w_X12_found_h60 X hk51 _ hw (lv_sub hl [1, 2, 3, 0] rfl) hf
def g_X12_found_h12 (F : Nat)  : Nat → Int → Int → mMem → mRs
  | 0, _, _, _ => none
  | n + 1, x1, x2, σ => if mw 324 ≤ mw x2 then (if 0 ≤ mw x1 ∧ mw x1 < (132 : Int) then if 0 ≤ mw x1 ∧ mw x1 < (132 : Int) then mob (g_X12_moves F (σ 112 (mw x1).toNat) (σ 113 (mw x1).toNat) 0 σ) (fun r103 σ104 => g_X12_found_h51 F F x1 0 σ104) else none else none) else (if 0 ≤ mw x2 ∧ mw x2 < (324 : Int) then mlm (mup σ 121 (mw x2).toNat (-1)) (fun σ105 => (g_X12_found_h12 F n) x1 (x2 + 1) σ105) else none)
set_option maxRecDepth 100000 in
set_option maxHeartbeats 4000000 in
theorem w_X12_found_h12 {p : Program} {l : Launch} {e : Env} {s : State} {m : MethodId} {args : Array Value} {below : List Frame} {meth : Method} {c : Code} {D : va_G} {cy : Nat → ClassId} {ad : Nat → Nat} {bs : Nat} {F : Nat}  (X : mCx p m c cX12_found 5 s args RX12 meth D cy (some .int))  {r : Int} {σ' : mMem}   (n : Nat) : ∀ {x1 x2 : Int} {σ : mMem} {H : Heap} {locs : List Loc} {ls : Array Slot} (_ : mWd D cy ad bs true mN σ s.heap H locs) (_ : lv_has ls 5 [(0, .ref (ad 86)), (1, .int (mI x1)), (2, .int (mI x2))]) (_ : g_X12_found_h12 F n x1 x2 σ = some (r, σ')), mGi p l e 4 s m args below meth c D cy ad bs r σ' H locs (F0 m 12 ls []) := by
  obtain ⟨⟨hx, hb, -, -, -⟩, -⟩ := id X
  induction n with
  | zero =>
    intro x1 x2 σ H locs ls hw hl hf
    unfold g_X12_found_h12 at hf
    cases hf
  | succ n ih =>
    have hk12 : ∀ (x1 x2 : Int) (σ : mMem) (H : Heap) (locs : List Loc) (ls : Array Slot), mWd D cy ad bs true mN σ s.heap H locs → lv_has ls 5 [(0, .ref (ad 86)), (1, .int (mI x1)), (2, .int (mI x2))] → g_X12_found_h12 F n x1 x2 σ = some (r, σ') → mGi p l e 4 s m args below meth c D cy ad bs r σ' H locs (F0 m 12 ls []) := fun x1 x2 σ H locs ls hw hl hf => ih hw hl hf
    intro x1 x2 σ H locs ls hw hl hf
    unfold g_X12_found_h12 at hf
    refine lv_iload_n hx hb dX12_found_12 rfl (lv_at hl 2 rfl) ?_
    refine lv_sipush (v := mI 324) hx hb dX12_found_13 (by decide) ?_
    refine r_icmp_ge (tgt := 32) X dX12_found_16 (by decide) hf (fun hc hf => ?_) (fun hc hf => ?_)
    · refine lv_aload_n hx hb dX12_found_32 rfl (lv_at hl 0 rfl) ?_
      refine lv_aload_n hx hb dX12_found_33 rfl (lv_at hl 0 rfl) ?_
      refine r_getr 112 X hw sh_86 fd_12_45 rfl rfl lf_X12_150 dX12_found_34 ?_
      refine lv_iload_n hx hb dX12_found_37 rfl (lv_at hl 1 rfl) ?_
      refine r_iald (132 : Int) rfl X hw sh_112 dX12_found_38 hf (fun hf => ?_)
      refine lv_aload_n hx hb dX12_found_39 rfl (lv_at hl 0 rfl) ?_
      refine r_getr 113 X hw sh_86 fd_12_46 rfl rfl lf_X12_153 dX12_found_40 ?_
      refine lv_iload_n hx hb dX12_found_43 rfl (lv_at hl 1 rfl) ?_
      refine r_iald (132 : Int) rfl X hw sh_113 dX12_found_44 hf (fun hf => ?_)
      refine lv_iconst (v := mI 0) hx hb dX12_found_45 rfl ?_
      refine r_cvv (rest := []) [.int (mI (σ 112 (mw x1).toNat)), .int (mI (σ 113 (mw x1).toNat)), .int (mI 0)] X hw (fun ra σa h => c_X12_moves l D cy ad bs F (σ 112 (mw x1).toNat) (σ 113 (mw x1).toNat) 0 σ ra σa  h) sh_86 rfl (by decide) rfl km_X12_moves kv_X12_moves lm_X12_506 dX12_found_46 hl.1 rfl rfl (Nat.le_of_ble_eq_true rfl) ⟨by decide, by decide⟩ ⟨Nat.zero_le _, Nat.zero_le _⟩ hf (fun r103 σ104 _ hf H locs hw => ?_)
      refine lv_iconst (v := mI 0) hx hb dX12_found_49 rfl ?_
      refine lv_istore_n (lv' := [(2, .int (mI 0)), (0, .ref (ad 86)), (1, .int (mI x1))]) hx hb dX12_found_50 rfl hl (by decide) rfl (fun ls hl => ?_)
      exact w_X12_found_h51 X _ hw (lv_sub hl [1, 2, 0] rfl) hf
    · refine lv_aload_n hx hb dX12_found_19 rfl (lv_at hl 0 rfl) ?_
      refine r_getr 121 X hw sh_86 fd_12_65 rfl rfl lf_X12_210 dX12_found_20 ?_
      refine lv_iload_n hx hb dX12_found_23 rfl (lv_at hl 2 rfl) ?_
      refine lv_iconst (v := mI (-1)) hx hb dX12_found_24 rfl ?_
      refine r_iast (324 : Int) rfl X hw sh_121 dX12_found_25 hf (fun hf H locs hw => ?_)
      refine r_mem hf hw (fun σ105 hw hf => ?_)
      refine lv_iinc (v := mI (x2 + 1)) (lv' := [(2, .int (mI (x2 + 1))), (0, .ref (ad 86)), (1, .int (mI x1))]) hx hb dX12_found_26 hl (k := 2) rfl (mI_add _ _) (by decide) rfl (fun ls hl => ?_)
      refine lv_goto (tgt := 12) hx hb dX12_found_29 (by decide) ?_
      exact hk12 x1 (x2 + 1) σ105 _ _ _ hw (lv_sub hl [1, 2, 0] rfl) hf
def g_X12_found (F : Nat) (x1 : Int) (σ : mMem) : mRs := mob (g_X12_isBox F x1 σ) (fun r1 σ2 => if ¬ mw r1 = 0 then (g_X12_found_h12 F F x1 0 σ2) else (some ((-1), σ2)))
set_option maxRecDepth 100000 in
set_option maxHeartbeats 4000000 in
theorem c_X12_found (l : Launch) (D : va_G) (cy : Nat → ClassId) (ad : Nat → Nat) (bs : Nat) (F : Nat)  (x1 : Int) (σ : mMem) (r : Int) (σ' : mMem)  (hf : g_X12_found F x1 σ = some (r, σ')) : mCi l D cy ad bs yX12_found cX12_found 5 (some .int) 4 [.ref (ad 86), .int (mI x1)] σ r σ' := by
  refine mCi.of (lv := [(0, .ref (ad 86)), (1, .int (mI x1))]) km_X12_found.2.2.2.2.2 (Nat.le_of_ble_eq_true rfl) rfl (fun p e s m args below meth c H locs ls X hw hl => ?_)
  obtain ⟨⟨hx, hb, -, -, -⟩, -⟩ := id X
  unfold g_X12_found at hf
  refine lv_aload_n hx hb dX12_found_0 rfl (lv_at hl 0 rfl) ?_
  refine lv_iload_n hx hb dX12_found_1 rfl (lv_at hl 1 rfl) ?_
  refine r_cvi (rest := []) [.int (mI x1)] X hw (fun ra σa h => c_X12_isBox l D cy ad bs F x1 σ ra σa  h) sh_86 rfl (by decide) rfl km_X12_isBox kv_X12_isBox lm_X12_492 dX12_found_2 hl.1 rfl rfl (Nat.le_of_ble_eq_true rfl) ⟨by decide, by decide⟩ ⟨Nat.zero_le _, Nat.zero_le _⟩ hf (fun r1 σ2 _ hf H locs hw => ?_)
  refine r_if_ne (tgt := 10) X dX12_found_5 (by decide) hf (fun hc hf => ?_) (fun hc hf => ?_)
  · refine lv_iconst (v := mI 0) hx hb dX12_found_10 rfl ?_
    refine lv_istore_n (lv' := [(2, .int (mI 0)), (0, .ref (ad 86)), (1, .int (mI x1))]) hx hb dX12_found_11 rfl hl (by decide) rfl (fun ls hl => ?_)
    exact w_X12_found_h12 X _ hw (lv_sub hl [1, 2, 0] rfl) hf
  · refine lv_iconst (v := mI (-1)) hx hb dX12_found_8 rfl ?_
    exact r_iret X hw dX12_found_9 hf
