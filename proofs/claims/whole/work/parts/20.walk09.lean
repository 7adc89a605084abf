def g_X12_toldOf (F : Nat) (x1 : Int) (σ : mMem) : mRs := if 0 ≤ mw ((3 * (σ 86 13)) + x1) ∧ mw ((3 * (σ 86 13)) + x1) < (6 : Int) then some (σ 97 (mw ((3 * (σ 86 13)) + x1)).toNat, σ) else none
set_option maxRecDepth 100000 in
set_option maxHeartbeats 4000000 in
theorem c_X12_toldOf (l : Launch) (D : va_G) (cy : Nat → ClassId) (ad : Nat → Nat) (bs : Nat) (F : Nat)  (x1 : Int) (σ : mMem) (r : Int) (σ' : mMem)  (hf : g_X12_toldOf F x1 σ = some (r, σ')) : mCi l D cy ad bs yX12_toldOf cX12_toldOf 2 (some .int) 1 [.ref (ad 86), .int (mI x1)] σ r σ' := by
  refine mCi.of (lv := [(0, .ref (ad 86)), (1, .int (mI x1))]) km_X12_toldOf.2.2.2.2.2 (Nat.le_of_ble_eq_true rfl) rfl (fun p e s m args below meth c H locs ls X hw hl => ?_)
  obtain ⟨⟨hx, hb, -, -, -⟩, -⟩ := id X
  unfold g_X12_toldOf at hf
  refine lv_aload_n hx hb dX12_toldOf_0 rfl (lv_at hl 0 rfl) ?_
  refine r_getr 97 X hw sh_86 fd_12_23 rfl rfl lf_X12_81 dX12_toldOf_1 ?_
  refine lv_iconst (v := mI 3) hx hb dX12_toldOf_4 rfl ?_
  refine lv_aload_n hx hb dX12_toldOf_5 rfl (lv_at hl 0 rfl) ?_
  refine r_geti X hw sh_86 fd_12_13 rfl lf_X12_51 dX12_toldOf_6 ?_
  refine r_imul X dX12_toldOf_9 ?_
  refine lv_iload_n hx hb dX12_toldOf_10 rfl (lv_at hl 1 rfl) ?_
  refine r_iadd X dX12_toldOf_11 ?_
  refine r_iald (6 : Int) rfl X hw sh_97 dX12_toldOf_12 hf (fun hf => ?_)
  exact r_iret X hw dX12_toldOf_13 hf
def g_X12_named_h2 (F : Nat)  : Nat → Int → Int → mMem → mRs
  | 0, _, _, _ => none
  | n + 1, x1, x3, σ => if 0 ≤ mw (σ 86 30) ∧ mw (σ 86 30) < (2 : Int) then if mw (σ 91 (mw (σ 86 30)).toNat) ≤ mw x3 then (some ((-1), σ)) else (if 0 ≤ mw ((6 * (σ 86 30)) + x3) ∧ mw ((6 * (σ 86 30)) + x3) < (12 : Int) then if ¬ mwl (σ 102 (mw ((6 * (σ 86 30)) + x3)).toNat) = mwl x1 then ((g_X12_named_h2 F n) x1 (x3 + 1) σ) else (some (x3, σ)) else none) else none
set_option maxRecDepth 100000 in
set_option maxHeartbeats 4000000 in
theorem w_X12_named_h2 {p : Program} {l : Launch} {e : Env} {s : State} {m : MethodId} {args : Array Value} {below : List Frame} {meth : Method} {c : Code} {D : va_G} {cy : Nat → ClassId} {ad : Nat → Nat} {bs : Nat} {F : Nat}  (X : mCx p m c cX12_named 4 s args RX12 meth D cy (some .int))  {r : Int} {σ' : mMem}   (n : Nat) : ∀ {x1 x3 : Int} {σ : mMem} {H : Heap} {locs : List Loc} {ls : Array Slot} (_ : mWd D cy ad bs true mN σ s.heap H locs) (_ : lv_has ls 4 [(0, .ref (ad 86)), (1, .long (mL x1)), (3, .int (mI x3))]) (_ : g_X12_named_h2 F n x1 x3 σ = some (r, σ')), mGi p l e 1 s m args below meth c D cy ad bs r σ' H locs (F0 m 2 ls []) := by
  obtain ⟨⟨hx, hb, -, -, -⟩, -⟩ := id X
  induction n with
  | zero =>
    intro x1 x3 σ H locs ls hw hl hf
    unfold g_X12_named_h2 at hf
    cases hf
  | succ n ih =>
    have hk2 : ∀ (x1 x3 : Int) (σ : mMem) (H : Heap) (locs : List Loc) (ls : Array Slot), mWd D cy ad bs true mN σ s.heap H locs → lv_has ls 4 [(0, .ref (ad 86)), (1, .long (mL x1)), (3, .int (mI x3))] → g_X12_named_h2 F n x1 x3 σ = some (r, σ') → mGi p l e 1 s m args below meth c D cy ad bs r σ' H locs (F0 m 2 ls []) := fun x1 x3 σ H locs ls hw hl hf => ih hw hl hf
    intro x1 x3 σ H locs ls hw hl hf
    unfold g_X12_named_h2 at hf
    refine lv_iload_n hx hb dX12_named_2 rfl (lv_at hl 2 rfl) ?_
    refine lv_aload_n hx hb dX12_named_3 rfl (lv_at hl 0 rfl) ?_
    refine r_getr 91 X hw sh_86 fd_12_17 rfl rfl lf_X12_63 dX12_named_4 ?_
    refine lv_aload_n hx hb dX12_named_7 rfl (lv_at hl 0 rfl) ?_
    refine r_geti X hw sh_86 fd_12_30 rfl lf_X12_103 dX12_named_8 ?_
    refine r_iald (2 : Int) rfl X hw sh_91 dX12_named_11 hf (fun hf => ?_)
    refine r_icmp_ge (tgt := 42) X dX12_named_12 (by decide) hf (fun hc hf => ?_) (fun hc hf => ?_)
    · refine lv_iconst (v := mI (-1)) hx hb dX12_named_42 rfl ?_
      exact r_iret X hw dX12_named_43 hf
    · refine lv_aload_n hx hb dX12_named_15 rfl (lv_at hl 0 rfl) ?_
      refine r_getr 102 X hw sh_86 fd_12_28 rfl rfl lf_X12_96 dX12_named_16 ?_
      refine lv_bipush (v := mI 6) hx hb dX12_named_19 (by decide) ?_
      refine lv_aload_n hx hb dX12_named_21 rfl (lv_at hl 0 rfl) ?_
      refine r_geti X hw sh_86 fd_12_30 rfl lf_X12_103 dX12_named_22 ?_
      refine r_imul X dX12_named_25 ?_
      refine lv_iload_n hx hb dX12_named_26 rfl (lv_at hl 2 rfl) ?_
      refine r_iadd X dX12_named_27 ?_
      refine r_lald (12 : Int) rfl X hw sh_102 dX12_named_28 hf (fun hf => ?_)
      refine lv_lload_n hx hb dX12_named_29 rfl (lv_at hl 1 rfl) ?_
      refine r_lcmp_ne (tgt := 36) X dX12_named_30 dX12_named_31 (by decide) hf (fun hc hf => ?_) (fun hc hf => ?_)
      · refine lv_iinc (v := mI (x3 + 1)) (lv' := [(3, .int (mI (x3 + 1))), (0, .ref (ad 86)), (1, .long (mL x1))]) hx hb dX12_named_36 hl (k := 2) rfl (mI_add _ _) (by decide) rfl (fun ls hl => ?_)
        refine lv_goto (tgt := 2) hx hb dX12_named_39 (by decide) ?_
        exact hk2 x1 (x3 + 1) σ _ _ _ hw (lv_sub hl [1, 2, 0] rfl) hf
      · refine lv_iload_n hx hb dX12_named_34 rfl (lv_at hl 2 rfl) ?_
        exact r_iret X hw dX12_named_35 hf
def g_X12_named (F : Nat) (x1 : Int) (σ : mMem) : mRs := g_X12_named_h2 F F x1 0 σ
set_option maxRecDepth 100000 in
set_option maxHeartbeats 4000000 in
theorem c_X12_named (l : Launch) (D : va_G) (cy : Nat → ClassId) (ad : Nat → Nat) (bs : Nat) (F : Nat)  (x1 : Int) (σ : mMem) (r : Int) (σ' : mMem)  (hf : g_X12_named F x1 σ = some (r, σ')) : mCi l D cy ad bs yX12_named cX12_named 4 (some .int) 1 [.ref (ad 86), .long (mL x1)] σ r σ' := by
  refine mCi.of (lv := [(0, .ref (ad 86)), (1, .long (mL x1))]) km_X12_named.2.2.2.2.2 (Nat.le_of_ble_eq_true rfl) rfl (fun p e s m args below meth c H locs ls X hw hl => ?_)
  obtain ⟨⟨hx, hb, -, -, -⟩, -⟩ := id X
  unfold g_X12_named at hf
  refine lv_iconst (v := mI 0) hx hb dX12_named_0 rfl ?_
  refine lv_istore_n (lv' := [(3, .int (mI 0)), (0, .ref (ad 86)), (1, .long (mL x1))]) hx hb dX12_named_1 rfl hl (by decide) rfl (fun ls hl => ?_)
  exact w_X12_named_h2 X _ hw (lv_sub hl [1, 2, 0] rfl) hf
def g_X12_number_b74 (F : Nat)  (x3 : Int) (σ : mMem) : mRs := some (x3, σ)
set_option maxRecDepth 100000 in
set_option maxHeartbeats 4000000 in
theorem w_X12_number_b74 {p : Program} {l : Launch} {e : Env} {s : State} {m : MethodId} {args : Array Value} {below : List Frame} {meth : Method} {c : Code} {D : va_G} {cy : Nat → ClassId} {ad : Nat → Nat} {bs : Nat} {F : Nat}  (X : mCx p m c cX12_number 4 s args RX12 meth D cy (some .int))  {r : Int} {σ' : mMem}   {x3 : Int} {σ : mMem} {H : Heap} {locs : List Loc} {ls : Array Slot} (hw : mWd D cy ad bs true mN σ s.heap H locs) (hl : lv_has ls 4 [(0, .ref (ad 86)), (3, .int (mI x3))]) (hf : g_X12_number_b74 F x3 σ = some (r, σ')) : mGi p l e 3 s m args below meth c D cy ad bs r σ' H locs (F0 m 74 ls []) := by
  obtain ⟨⟨hx, hb, -, -, -⟩, -⟩ := id X
  unfold g_X12_number_b74 at hf
  refine lv_iload_n hx hb dX12_number_74 rfl (lv_at hl 1 rfl) ?_
  exact r_iret X hw dX12_number_75 hf
def g_X12_number_b58 (F : Nat)  (σ : mMem) : mRs := mlet (σ 86 6) (fun y209 => if ¬ mw (σ 86 8) = 0 then (g_X12_number_b74 F y209 σ) else (mob (g_X12_ahead F σ) (fun r210 σ211 => g_X12_number_b74 F y209 σ211)))
set_option maxRecDepth 100000 in
set_option maxHeartbeats 4000000 in
theorem w_X12_number_b58 {p : Program} {l : Launch} {e : Env} {s : State} {m : MethodId} {args : Array Value} {below : List Frame} {meth : Method} {c : Code} {D : va_G} {cy : Nat → ClassId} {ad : Nat → Nat} {bs : Nat} {F : Nat}  (X : mCx p m c cX12_number 4 s args RX12 meth D cy (some .int))  {r : Int} {σ' : mMem}    {σ : mMem} {H : Heap} {locs : List Loc} {ls : Array Slot} (hw : mWd D cy ad bs true mN σ s.heap H locs) (hl : lv_has ls 4 [(0, .ref (ad 86))]) (hf : g_X12_number_b58 F  σ = some (r, σ')) : mGi p l e 3 s m args below meth c D cy ad bs r σ' H locs (F0 m 58 ls []) := by
  obtain ⟨⟨hx, hb, -, -, -⟩, -⟩ := id X
  unfold g_X12_number_b58 at hf
  refine lv_aload_n hx hb dX12_number_58 rfl (lv_at hl 0 rfl) ?_
  refine r_geti X hw sh_86 fd_12_6 rfl lf_X12_29 dX12_number_59 ?_
  refine r_leti hf (fun y209 hf => ?_)
  refine lv_istore_n (lv' := [(3, .int (mI y209)), (0, .ref (ad 86))]) hx hb dX12_number_62 rfl hl (by decide) rfl (fun ls hl => ?_)
  refine lv_aload_n hx hb dX12_number_63 rfl (lv_at hl 1 rfl) ?_
  refine r_geti X hw sh_86 fd_12_8 rfl lf_X12_36 dX12_number_64 ?_
  refine r_if_ne (tgt := 74) X dX12_number_67 (by decide) hf (fun hc hf => ?_) (fun hc hf => ?_)
  · exact w_X12_number_b74 X hw (lv_sub hl [1, 0] rfl) hf
  · refine lv_aload_n hx hb dX12_number_70 rfl (lv_at hl 1 rfl) ?_
    refine r_cvv (rest := []) [] X hw (fun ra σa h => c_X12_ahead l D cy ad bs F σ ra σa  h) sh_86 rfl (by decide) rfl km_X12_ahead kv_X12_ahead lm_X12_259 dX12_number_71 hl.1 rfl rfl (Nat.le_of_ble_eq_true rfl) ⟨by decide, by decide⟩ ⟨Nat.zero_le _, Nat.zero_le _⟩ hf (fun r210 σ211 _ hf H locs hw => ?_)
    exact w_X12_number_b74 X hw (lv_sub hl [1, 0] rfl) hf
def g_X12_number_b30 (F : Nat)  (x1 x2 : Int) (σ : mMem) : mRs := if ¬ mw (σ 86 8) = 0 then (g_X12_number_b58 F σ) else (mob (g_X12_is F (σ 86 6) x1 x2 σ) (fun r105 σ106 => if ¬ mw r105 = 0 then (g_X12_number_b58 F σ106) else (mob (g_X12_blame F 4 (σ106 86 4) σ106) (fun r107 σ108 => g_X12_number_b58 F σ108))))
set_option maxRecDepth 100000 in
set_option maxHeartbeats 4000000 in
theorem w_X12_number_b30 {p : Program} {l : Launch} {e : Env} {s : State} {m : MethodId} {args : Array Value} {below : List Frame} {meth : Method} {c : Code} {D : va_G} {cy : Nat → ClassId} {ad : Nat → Nat} {bs : Nat} {F : Nat}  (X : mCx p m c cX12_number 4 s args RX12 meth D cy (some .int))  {r : Int} {σ' : mMem}   {x1 x2 : Int} {σ : mMem} {H : Heap} {locs : List Loc} {ls : Array Slot} (hw : mWd D cy ad bs true mN σ s.heap H locs) (hl : lv_has ls 4 [(0, .ref (ad 86)), (1, .int (mI x1)), (2, .int (mI x2))]) (hf : g_X12_number_b30 F x1 x2 σ = some (r, σ')) : mGi p l e 3 s m args below meth c D cy ad bs r σ' H locs (F0 m 30 ls []) := by
  obtain ⟨⟨hx, hb, -, -, -⟩, -⟩ := id X
  unfold g_X12_number_b30 at hf
  refine lv_aload_n hx hb dX12_number_30 rfl (lv_at hl 0 rfl) ?_
  refine r_geti X hw sh_86 fd_12_8 rfl lf_X12_36 dX12_number_31 ?_
  refine r_if_ne (tgt := 58) X dX12_number_34 (by decide) hf (fun hc hf => ?_) (fun hc hf => ?_)
  · exact w_X12_number_b58 X hw (lv_sub hl [0] rfl) hf
  · refine lv_aload_n hx hb dX12_number_37 rfl (lv_at hl 0 rfl) ?_
    refine r_geti X hw sh_86 fd_12_6 rfl lf_X12_29 dX12_number_38 ?_
    refine lv_iload_n hx hb dX12_number_41 rfl (lv_at hl 1 rfl) ?_
    refine lv_iload_n hx hb dX12_number_42 rfl (lv_at hl 2 rfl) ?_
    refine r_csi (rest := []) [.int (mI (σ 86 6)), .int (mI x1), .int (mI x2)] X hw (fun ra σa h => c_X12_is l D cy ad bs F (σ 86 6) x1 x2 σ ra σa  h) km_X12_is ks_X12_is lm_X12_318 dX12_number_43 hl.1 rfl rfl (Nat.le_of_ble_eq_true rfl) ⟨by decide, by decide⟩ ⟨Nat.zero_le _, Nat.zero_le _⟩ hf (fun r105 σ106 _ hf H locs hw => ?_)
    refine r_if_ne (tgt := 58) X dX12_number_46 (by decide) hf (fun hc hf => ?_) (fun hc hf => ?_)
    · exact w_X12_number_b58 X hw (lv_sub hl [0] rfl) hf
    · refine lv_aload_n hx hb dX12_number_49 rfl (lv_at hl 0 rfl) ?_
      refine lv_iconst (v := mI 4) hx hb dX12_number_50 rfl ?_
      refine lv_aload_n hx hb dX12_number_51 rfl (lv_at hl 0 rfl) ?_
      refine r_geti X hw sh_86 fd_12_4 rfl lf_X12_23 dX12_number_52 ?_
      refine r_cvv (rest := []) [.int (mI 4), .int (mI (σ106 86 4))] X hw (fun ra σa h => c_X12_blame l D cy ad bs F 4 (σ106 86 4) σ106 ra σa  h) sh_86 rfl (by decide) rfl km_X12_blame kv_X12_blame lm_X12_242 dX12_number_55 hl.1 rfl rfl (Nat.le_of_ble_eq_true rfl) ⟨by decide, by decide⟩ ⟨Nat.zero_le _, Nat.zero_le _⟩ hf (fun r107 σ108 _ hf H locs hw => ?_)
      exact w_X12_number_b58 X hw (lv_sub hl [0] rfl) hf
def g_X12_number (F : Nat) (x1 x2 : Int) (σ : mMem) : mRs := mob (g_X12_lex F σ) (fun r1 σ2 => if mw (σ2 86 8) ≤ 0 then (if mw (σ2 86 3) = mw 2 then (g_X12_number_b30 F x1 x2 σ2) else (mob (g_X12_blame F 1 (σ2 86 4) σ2) (fun r3 σ4 => g_X12_number_b30 F x1 x2 σ4))) else (some (0, σ2)))
set_option maxRecDepth 100000 in
set_option maxHeartbeats 4000000 in
theorem c_X12_number (l : Launch) (D : va_G) (cy : Nat → ClassId) (ad : Nat → Nat) (bs : Nat) (F : Nat)  (x1 x2 : Int) (σ : mMem) (r : Int) (σ' : mMem)  (hf : g_X12_number F x1 x2 σ = some (r, σ')) : mCi l D cy ad bs yX12_number cX12_number 4 (some .int) 3 [.ref (ad 86), .int (mI x1), .int (mI x2)] σ r σ' := by
  refine mCi.of (lv := [(0, .ref (ad 86)), (1, .int (mI x1)), (2, .int (mI x2))]) km_X12_number.2.2.2.2.2 (Nat.le_of_ble_eq_true rfl) rfl (fun p e s m args below meth c H locs ls X hw hl => ?_)
  obtain ⟨⟨hx, hb, -, -, -⟩, -⟩ := id X
  unfold g_X12_number at hf
  refine lv_aload_n hx hb dX12_number_0 rfl (lv_at hl 0 rfl) ?_
  refine r_cvv (rest := []) [] X hw (fun ra σa h => c_X12_lex l D cy ad bs F σ ra σa  h) sh_86 rfl (by decide) rfl km_X12_lex kv_X12_lex lm_X12_253 dX12_number_1 hl.1 rfl rfl (Nat.le_of_ble_eq_true rfl) ⟨by decide, by decide⟩ ⟨Nat.zero_le _, Nat.zero_le _⟩ hf (fun r1 σ2 _ hf H locs hw => ?_)
  refine lv_aload_n hx hb dX12_number_4 rfl (lv_at hl 0 rfl) ?_
  refine r_geti X hw sh_86 fd_12_8 rfl lf_X12_36 dX12_number_5 ?_
  refine r_if_le (tgt := 13) X dX12_number_8 (by decide) hf (fun hc hf => ?_) (fun hc hf => ?_)
  · refine lv_aload_n hx hb dX12_number_13 rfl (lv_at hl 0 rfl) ?_
    refine r_geti X hw sh_86 fd_12_3 rfl lf_X12_20 dX12_number_14 ?_
    refine lv_iconst (v := mI 2) hx hb dX12_number_17 rfl ?_
    refine r_icmp_eq (tgt := 30) X dX12_number_18 (by decide) hf (fun hc hf => ?_) (fun hc hf => ?_)
    · exact w_X12_number_b30 X hw (lv_sub hl [0, 1, 2] rfl) hf
    · refine lv_aload_n hx hb dX12_number_21 rfl (lv_at hl 0 rfl) ?_
      refine lv_iconst (v := mI 1) hx hb dX12_number_22 rfl ?_
      refine lv_aload_n hx hb dX12_number_23 rfl (lv_at hl 0 rfl) ?_
      refine r_geti X hw sh_86 fd_12_4 rfl lf_X12_23 dX12_number_24 ?_
      refine r_cvv (rest := []) [.int (mI 1), .int (mI (σ2 86 4))] X hw (fun ra σa h => c_X12_blame l D cy ad bs F 1 (σ2 86 4) σ2 ra σa  h) sh_86 rfl (by decide) rfl km_X12_blame kv_X12_blame lm_X12_242 dX12_number_27 hl.1 rfl rfl (Nat.le_of_ble_eq_true rfl) ⟨by decide, by decide⟩ ⟨Nat.zero_le _, Nat.zero_le _⟩ hf (fun r3 σ4 _ hf H locs hw => ?_)
      exact w_X12_number_b30 X hw (lv_sub hl [0, 1, 2] rfl) hf
  · refine lv_iconst (v := mI 0) hx hb dX12_number_11 rfl ?_
    exact r_iret X hw dX12_number_12 hf
def g_X12_add (F : Nat) (x1 x2 : Int) (σ : mMem) : mRs := if 0 ≤ mw ((1600 * (σ 86 30)) + (σ 86 29)) ∧ mw ((1600 * (σ 86 30)) + (σ 86 29)) < (3200 : Int) then mlm (mup σ 100 (mw ((1600 * (σ 86 30)) + (σ 86 29))).toNat x1) (fun σ1 => if 0 ≤ mw ((1600 * (σ1 86 30)) + (σ1 86 29)) ∧ mw ((1600 * (σ1 86 30)) + (σ1 86 29)) < (3200 : Int) then mlm (mup σ1 101 (mw ((1600 * (σ1 86 30)) + (σ1 86 29))).toNat x2) (fun σ2 => mlm (mup σ2 86 29 ((σ2 86 29) + 1)) (fun σ3 => some (0, σ3))) else none) else none
set_option maxRecDepth 100000 in
set_option maxHeartbeats 4000000 in
theorem c_X12_add (l : Launch) (D : va_G) (cy : Nat → ClassId) (ad : Nat → Nat) (bs : Nat) (F : Nat)  (x1 x2 : Int) (σ : mMem) (r : Int) (σ' : mMem)  (hf : g_X12_add F x1 x2 σ = some (r, σ')) : mCv l D cy ad bs yX12_add cX12_add 3 none 1 [.ref (ad 86), .int (mI x1), .int (mI x2)] σ σ' := by
  refine mCv.of (lv := [(0, .ref (ad 86)), (1, .int (mI x1)), (2, .int (mI x2))]) km_X12_add.2.2.2.2.2 (Nat.le_of_ble_eq_true rfl) rfl (fun p e s m args below meth c H locs ls X hw hl => ?_)
  obtain ⟨⟨hx, hb, -, -, -⟩, -⟩ := id X
  unfold g_X12_add at hf
  refine lv_aload_n hx hb dX12_add_0 rfl (lv_at hl 0 rfl) ?_
  refine r_getr 100 X hw sh_86 fd_12_26 rfl rfl lf_X12_90 dX12_add_1 ?_
  refine lv_sipush (v := mI 1600) hx hb dX12_add_4 (by decide) ?_
  refine lv_aload_n hx hb dX12_add_7 rfl (lv_at hl 0 rfl) ?_
  refine r_geti X hw sh_86 fd_12_30 rfl lf_X12_103 dX12_add_8 ?_
  refine r_imul X dX12_add_11 ?_
  refine lv_aload_n hx hb dX12_add_12 rfl (lv_at hl 0 rfl) ?_
  refine r_geti X hw sh_86 fd_12_29 rfl lf_X12_100 dX12_add_13 ?_
  refine r_iadd X dX12_add_16 ?_
  refine lv_iload_n hx hb dX12_add_17 rfl (lv_at hl 1 rfl) ?_
  refine r_iast (3200 : Int) rfl X hw sh_100 dX12_add_18 hf (fun hf H locs hw => ?_)
  refine r_mem hf hw (fun σ1 hw hf => ?_)
  refine lv_aload_n hx hb dX12_add_19 rfl (lv_at hl 0 rfl) ?_
  refine r_getr 101 X hw sh_86 fd_12_27 rfl rfl lf_X12_93 dX12_add_20 ?_
  refine lv_sipush (v := mI 1600) hx hb dX12_add_23 (by decide) ?_
  refine lv_aload_n hx hb dX12_add_26 rfl (lv_at hl 0 rfl) ?_
  refine r_geti X hw sh_86 fd_12_30 rfl lf_X12_103 dX12_add_27 ?_
  refine r_imul X dX12_add_30 ?_
  refine lv_aload_n hx hb dX12_add_31 rfl (lv_at hl 0 rfl) ?_
  refine r_geti X hw sh_86 fd_12_29 rfl lf_X12_100 dX12_add_32 ?_
  refine r_iadd X dX12_add_35 ?_
  refine lv_iload_n hx hb dX12_add_36 rfl (lv_at hl 2 rfl) ?_
  refine r_iast (3200 : Int) rfl X hw sh_101 dX12_add_37 hf (fun hf H locs hw => ?_)
  refine r_mem hf hw (fun σ2 hw hf => ?_)
  refine lv_aload_n hx hb dX12_add_38 rfl (lv_at hl 0 rfl) ?_
  refine lv_dup hx hb dX12_add_39 rfl ?_
  refine r_geti X hw sh_86 fd_12_29 rfl lf_X12_100 dX12_add_40 ?_
  refine lv_iconst (v := mI 1) hx hb dX12_add_43 rfl ?_
  refine r_iadd X dX12_add_44 ?_
  refine r_puti X hw sh_86 fd_12_29 fp_12_29 rfl rfl lf_X12_100 dX12_add_45 (fun H locs hw => ?_)
  refine r_mem hf hw (fun σ3 hw hf => ?_)
  exact r_vret X hw dX12_add_48 hf
def g_X12_rank_b70 (F : Nat)  (t0 : Int) (σ : mMem) : mRs := some (t0, σ)
set_option maxRecDepth 100000 in
set_option maxHeartbeats 4000000 in
theorem w_X12_rank_b70 {p : Program} {l : Launch} {e : Env} {s : State} {m : MethodId} {args : Array Value} {below : List Frame} {meth : Method} {c : Code} {D : va_G} {cy : Nat → ClassId} {ad : Nat → Nat} {bs : Nat} {F : Nat}  (X : mCx p m c cX12_rank 1 s args RX12 meth D cy (some .int))  {r : Int} {σ' : mMem}   {t0 : Int} {σ : mMem} {H : Heap} {locs : List Loc} {ls : Array Slot} (hw : mWd D cy ad bs true mN σ s.heap H locs) (hl : lv_has ls 1 []) (hf : g_X12_rank_b70 F t0 σ = some (r, σ')) : mGi p l e 1 s m args below meth c D cy ad bs r σ' H locs (F0 m 70 ls [.int (mI t0)]) := by
  obtain ⟨⟨hx, hb, -, -, -⟩, -⟩ := id X
  unfold g_X12_rank_b70 at hf
  exact r_iret X hw dX12_rank_70 hf
def g_X12_rank_b48 (F : Nat)  (σ : mMem) : mRs := g_X12_rank_b70 F 4 σ
set_option maxRecDepth 100000 in
set_option maxHeartbeats 4000000 in
theorem w_X12_rank_b48 {p : Program} {l : Launch} {e : Env} {s : State} {m : MethodId} {args : Array Value} {below : List Frame} {meth : Method} {c : Code} {D : va_G} {cy : Nat → ClassId} {ad : Nat → Nat} {bs : Nat} {F : Nat}  (X : mCx p m c cX12_rank 1 s args RX12 meth D cy (some .int))  {r : Int} {σ' : mMem}    {σ : mMem} {H : Heap} {locs : List Loc} {ls : Array Slot} (hw : mWd D cy ad bs true mN σ s.heap H locs) (hl : lv_has ls 1 []) (hf : g_X12_rank_b48 F  σ = some (r, σ')) : mGi p l e 1 s m args below meth c D cy ad bs r σ' H locs (F0 m 48 ls []) := by
  obtain ⟨⟨hx, hb, -, -, -⟩, -⟩ := id X
  unfold g_X12_rank_b48 at hf
  refine lv_iconst (v := mI 4) hx hb dX12_rank_48 rfl ?_
  refine lv_goto (tgt := 70) hx hb dX12_rank_49 (by decide) ?_
  exact w_X12_rank_b70 X hw (lv_sub hl [] rfl) hf
def g_X12_rank_b64 (F : Nat)  (σ : mMem) : mRs := g_X12_rank_b70 F 5 σ
set_option maxRecDepth 100000 in
set_option maxHeartbeats 4000000 in
theorem w_X12_rank_b64 {p : Program} {l : Launch} {e : Env} {s : State} {m : MethodId} {args : Array Value} {below : List Frame} {meth : Method} {c : Code} {D : va_G} {cy : Nat → ClassId} {ad : Nat → Nat} {bs : Nat} {F : Nat}  (X : mCx p m c cX12_rank 1 s args RX12 meth D cy (some .int))  {r : Int} {σ' : mMem}    {σ : mMem} {H : Heap} {locs : List Loc} {ls : Array Slot} (hw : mWd D cy ad bs true mN σ s.heap H locs) (hl : lv_has ls 1 []) (hf : g_X12_rank_b64 F  σ = some (r, σ')) : mGi p l e 1 s m args below meth c D cy ad bs r σ' H locs (F0 m 64 ls []) := by
  obtain ⟨⟨hx, hb, -, -, -⟩, -⟩ := id X
  unfold g_X12_rank_b64 at hf
  refine lv_iconst (v := mI 5) hx hb dX12_rank_64 rfl ?_
  refine lv_goto (tgt := 70) hx hb dX12_rank_65 (by decide) ?_
  exact w_X12_rank_b70 X hw (lv_sub hl [] rfl) hf
def g_X12_rank (F : Nat) (x0 : Int) (σ : mMem) : mRs := if ¬ mw x0 = mw 42 then (if ¬ mw x0 = mw 41 then (if ¬ mw x0 = mw 43 then (if mw x0 = mw 38 then (g_X12_rank_b48 F σ) else (if mw x0 = mw 39 then (g_X12_rank_b48 F σ) else (if ¬ mw x0 = mw 40 then (if mw x0 = mw 31 then (g_X12_rank_b64 F σ) else (if ¬ mw x0 = mw 32 then (g_X12_rank_b70 F 6 σ) else (g_X12_rank_b64 F σ))) else (g_X12_rank_b48 F σ)))) else (g_X12_rank_b70 F 3 σ)) else (g_X12_rank_b70 F 2 σ)) else (g_X12_rank_b70 F 1 σ)
set_option maxRecDepth 100000 in
set_option maxHeartbeats 4000000 in
theorem c_X12_rank (l : Launch) (D : va_G) (cy : Nat → ClassId) (ad : Nat → Nat) (bs : Nat) (F : Nat)  (x0 : Int) (σ : mMem) (r : Int) (σ' : mMem)  (hf : g_X12_rank F x0 σ = some (r, σ')) : mCi l D cy ad bs yX12_rank cX12_rank 1 (some .int) 1 [.int (mI x0)] σ r σ' := by
  refine mCi.of (lv := [(0, .int (mI x0))]) km_X12_rank.2.2.2.2.2 (Nat.le_of_ble_eq_true rfl) rfl (fun p e s m args below meth c H locs ls X hw hl => ?_)
  obtain ⟨⟨hx, hb, -, -, -⟩, -⟩ := id X
  unfold g_X12_rank at hf
  refine lv_iload_n hx hb dX12_rank_0 rfl (lv_at hl 0 rfl) ?_
  refine lv_bipush (v := mI 42) hx hb dX12_rank_1 (by decide) ?_
  refine r_icmp_ne (tgt := 10) X dX12_rank_3 (by decide) hf (fun hc hf => ?_) (fun hc hf => ?_)
  · refine lv_iload_n hx hb dX12_rank_10 rfl (lv_at hl 0 rfl) ?_
    refine lv_bipush (v := mI 41) hx hb dX12_rank_11 (by decide) ?_
    refine r_icmp_ne (tgt := 20) X dX12_rank_13 (by decide) hf (fun hc hf => ?_) (fun hc hf => ?_)
    · refine lv_iload_n hx hb dX12_rank_20 rfl (lv_at hl 0 rfl) ?_
      refine lv_bipush (v := mI 43) hx hb dX12_rank_21 (by decide) ?_
      refine r_icmp_ne (tgt := 30) X dX12_rank_23 (by decide) hf (fun hc hf => ?_) (fun hc hf => ?_)
      · refine lv_iload_n hx hb dX12_rank_30 rfl (lv_at hl 0 rfl) ?_
        refine lv_bipush (v := mI 38) hx hb dX12_rank_31 (by decide) ?_
        refine r_icmp_eq (tgt := 48) X dX12_rank_33 (by decide) hf (fun hc hf => ?_) (fun hc hf => ?_)
        · exact w_X12_rank_b48 X hw (lv_sub hl [] rfl) hf
        · refine lv_iload_n hx hb dX12_rank_36 rfl (lv_at hl 0 rfl) ?_
          refine lv_bipush (v := mI 39) hx hb dX12_rank_37 (by decide) ?_
          refine r_icmp_eq (tgt := 48) X dX12_rank_39 (by decide) hf (fun hc hf => ?_) (fun hc hf => ?_)
          · exact w_X12_rank_b48 X hw (lv_sub hl [] rfl) hf
          · refine lv_iload_n hx hb dX12_rank_42 rfl (lv_at hl 0 rfl) ?_
            refine lv_bipush (v := mI 40) hx hb dX12_rank_43 (by decide) ?_
            refine r_icmp_ne (tgt := 52) X dX12_rank_45 (by decide) hf (fun hc hf => ?_) (fun hc hf => ?_)
            · refine lv_iload_n hx hb dX12_rank_52 rfl (lv_at hl 0 rfl) ?_
              refine lv_bipush (v := mI 31) hx hb dX12_rank_53 (by decide) ?_
              refine r_icmp_eq (tgt := 64) X dX12_rank_55 (by decide) hf (fun hc hf => ?_) (fun hc hf => ?_)
              · exact w_X12_rank_b64 X hw (lv_sub hl [] rfl) hf
              · refine lv_iload_n hx hb dX12_rank_58 rfl (lv_at hl 0 rfl) ?_
                refine lv_bipush (v := mI 32) hx hb dX12_rank_59 (by decide) ?_
                refine r_icmp_ne (tgt := 68) X dX12_rank_61 (by decide) hf (fun hc hf => ?_) (fun hc hf => ?_)
                · refine lv_bipush (v := mI 6) hx hb dX12_rank_68 (by decide) ?_
                  exact w_X12_rank_b70 X hw (lv_sub hl [] rfl) hf
                · exact w_X12_rank_b64 X hw (lv_sub hl [] rfl) hf
            · exact w_X12_rank_b48 X hw (lv_sub hl [] rfl) hf
      · refine lv_iconst (v := mI 3) hx hb dX12_rank_26 rfl ?_
        refine lv_goto (tgt := 70) hx hb dX12_rank_27 (by decide) ?_
        exact w_X12_rank_b70 X hw (lv_sub hl [] rfl) hf
    · refine lv_iconst (v := mI 2) hx hb dX12_rank_16 rfl ?_
      refine lv_goto (tgt := 70) hx hb dX12_rank_17 (by decide) ?_
      exact w_X12_rank_b70 X hw (lv_sub hl [] rfl) hf
  · refine lv_iconst (v := mI 1) hx hb dX12_rank_6 rfl ?_
    refine lv_goto (tgt := 70) hx hb dX12_rank_7 (by decide) ?_
    exact w_X12_rank_b70 X hw (lv_sub hl [] rfl) hf
def g_X12_joins_b87 (F : Nat)  (σ : mMem) : mRs := some (0, σ)
set_option maxRecDepth 100000 in
set_option maxHeartbeats 4000000 in
theorem w_X12_joins_b87 {p : Program} {l : Launch} {e : Env} {s : State} {m : MethodId} {args : Array Value} {below : List Frame} {meth : Method} {c : Code} {D : va_G} {cy : Nat → ClassId} {ad : Nat → Nat} {bs : Nat} {F : Nat}  (X : mCx p m c cX12_joins 2 s args RX12 meth D cy none)  {r : Int} {σ' : mMem}    {σ : mMem} {H : Heap} {locs : List Loc} {ls : Array Slot} (hw : mWd D cy ad bs true mN σ s.heap H locs) (hl : lv_has ls 2 [(0, .ref (ad 86))]) (hf : g_X12_joins_b87 F  σ = some (r, σ')) : mGv p l e 2 s m args below meth c D cy ad bs σ' H locs (F0 m 87 ls []) := by
  obtain ⟨⟨hx, hb, -, -, -⟩, -⟩ := id X
  unfold g_X12_joins_b87 at hf
  exact r_vret X hw dX12_joins_87 hf
def g_X12_joins_h0 (F : Nat)  : Nat → Int → mMem → mRs
  | 0, _, _ => none
  | n + 1, x1, σ => if 0 ≤ mw ((σ 86 37) - 1) ∧ mw ((σ 86 37) - 1) < (20 : Int) then if mw (σ 86 40) ≤ mw (σ 107 (mw ((σ 86 37) - 1)).toNat) then (g_X12_joins_b87 F σ) else (if 0 ≤ mw ((σ 86 40) - 1) ∧ mw ((σ 86 40) - 1) < (500 : Int) then mob (g_X12_rank F (σ 108 (mw ((σ 86 40) - 1)).toNat) σ) (fun r101 σ102 => if mw r101 < mw x1 then (g_X12_joins_b87 F σ102) else (mlm (mup σ102 86 40 ((σ102 86 40) - 1)) (fun σ103 => if 0 ≤ mw (σ103 86 40) ∧ mw (σ103 86 40) < (500 : Int) then mob (g_X12_add F (σ103 108 (mw (σ103 86 40)).toNat) 0 σ103) (fun r104 σ105 => if 0 ≤ mw (σ105 86 40) ∧ mw (σ105 86 40) < (500 : Int) then if ¬ mw (σ105 108 (mw (σ105 86 40)).toNat) = mw 43 then ((g_X12_joins_h0 F n) x1 σ105) else (mlm (mup σ105 86 38 ((σ105 86 38) - 1)) (fun σ106 => (g_X12_joins_h0 F n) x1 σ106)) else none) else none))) else none) else none
set_option maxRecDepth 100000 in
set_option maxHeartbeats 4000000 in
theorem w_X12_joins_h0 {p : Program} {l : Launch} {e : Env} {s : State} {m : MethodId} {args : Array Value} {below : List Frame} {meth : Method} {c : Code} {D : va_G} {cy : Nat → ClassId} {ad : Nat → Nat} {bs : Nat} {F : Nat}  (X : mCx p m c cX12_joins 2 s args RX12 meth D cy none)  {r : Int} {σ' : mMem}   (n : Nat) : ∀ {x1 : Int} {σ : mMem} {H : Heap} {locs : List Loc} {ls : Array Slot} (_ : mWd D cy ad bs true mN σ s.heap H locs) (_ : lv_has ls 2 [(0, .ref (ad 86)), (1, .int (mI x1))]) (_ : g_X12_joins_h0 F n x1 σ = some (r, σ')), mGv p l e 2 s m args below meth c D cy ad bs σ' H locs (F0 m 0 ls []) := by
  obtain ⟨⟨hx, hb, -, -, -⟩, -⟩ := id X
  induction n with
  | zero =>
    intro x1 σ H locs ls hw hl hf
    unfold g_X12_joins_h0 at hf
    cases hf
  | succ n ih =>
    have hk0 : ∀ (x1 : Int) (σ : mMem) (H : Heap) (locs : List Loc) (ls : Array Slot), mWd D cy ad bs true mN σ s.heap H locs → lv_has ls 2 [(0, .ref (ad 86)), (1, .int (mI x1))] → g_X12_joins_h0 F n x1 σ = some (r, σ') → mGv p l e 2 s m args below meth c D cy ad bs σ' H locs (F0 m 0 ls []) := fun x1 σ H locs ls hw hl hf => ih hw hl hf
    intro x1 σ H locs ls hw hl hf
    unfold g_X12_joins_h0 at hf
    refine lv_aload_n hx hb dX12_joins_0 rfl (lv_at hl 0 rfl) ?_
    refine r_geti X hw sh_86 fd_12_40 rfl lf_X12_135 dX12_joins_1 ?_
    refine lv_aload_n hx hb dX12_joins_4 rfl (lv_at hl 0 rfl) ?_
    refine r_getr 107 X hw sh_86 fd_12_36 rfl rfl lf_X12_123 dX12_joins_5 ?_
    refine lv_aload_n hx hb dX12_joins_8 rfl (lv_at hl 0 rfl) ?_
    refine r_geti X hw sh_86 fd_12_37 rfl lf_X12_126 dX12_joins_9 ?_
    refine lv_iconst (v := mI 1) hx hb dX12_joins_12 rfl ?_
    refine r_isub X dX12_joins_13 ?_
    refine r_iald (20 : Int) rfl X hw sh_107 dX12_joins_14 hf (fun hf => ?_)
    refine r_icmp_le (tgt := 87) X dX12_joins_15 (by decide) hf (fun hc hf => ?_) (fun hc hf => ?_)
    · exact w_X12_joins_b87 X hw (lv_sub hl [0] rfl) hf
    · refine lv_aload_n hx hb dX12_joins_18 rfl (lv_at hl 0 rfl) ?_
      refine r_getr 108 X hw sh_86 fd_12_39 rfl rfl lf_X12_132 dX12_joins_19 ?_
      refine lv_aload_n hx hb dX12_joins_22 rfl (lv_at hl 0 rfl) ?_
      refine r_geti X hw sh_86 fd_12_40 rfl lf_X12_135 dX12_joins_23 ?_
      refine lv_iconst (v := mI 1) hx hb dX12_joins_26 rfl ?_
      refine r_isub X dX12_joins_27 ?_
      refine r_iald (500 : Int) rfl X hw sh_108 dX12_joins_28 hf (fun hf => ?_)
      refine r_csi (rest := []) [.int (mI (σ 108 (mw ((σ 86 40) - 1)).toNat))] X hw (fun ra σa h => c_X12_rank l D cy ad bs F (σ 108 (mw ((σ 86 40) - 1)).toNat) σ ra σa  h) km_X12_rank ks_X12_rank lm_X12_322 dX12_joins_29 hl.1 rfl rfl (Nat.le_of_ble_eq_true rfl) ⟨by decide, by decide⟩ ⟨Nat.zero_le _, Nat.zero_le _⟩ hf (fun r101 σ102 _ hf H locs hw => ?_)
      refine lv_iload_n hx hb dX12_joins_32 rfl (lv_at hl 1 rfl) ?_
      refine r_icmp_lt (tgt := 87) X dX12_joins_33 (by decide) hf (fun hc hf => ?_) (fun hc hf => ?_)
      · exact w_X12_joins_b87 X hw (lv_sub hl [0] rfl) hf
      · refine lv_aload_n hx hb dX12_joins_36 rfl (lv_at hl 0 rfl) ?_
        refine lv_dup hx hb dX12_joins_37 rfl ?_
        refine r_geti X hw sh_86 fd_12_40 rfl lf_X12_135 dX12_joins_38 ?_
        refine lv_iconst (v := mI 1) hx hb dX12_joins_41 rfl ?_
        refine r_isub X dX12_joins_42 ?_
        refine r_puti X hw sh_86 fd_12_40 fp_12_40 rfl rfl lf_X12_135 dX12_joins_43 (fun H locs hw => ?_)
        refine r_mem hf hw (fun σ103 hw hf => ?_)
        refine lv_aload_n hx hb dX12_joins_46 rfl (lv_at hl 0 rfl) ?_
        refine lv_aload_n hx hb dX12_joins_47 rfl (lv_at hl 0 rfl) ?_
        refine r_getr 108 X hw sh_86 fd_12_39 rfl rfl lf_X12_132 dX12_joins_48 ?_
        refine lv_aload_n hx hb dX12_joins_51 rfl (lv_at hl 0 rfl) ?_
        refine r_geti X hw sh_86 fd_12_40 rfl lf_X12_135 dX12_joins_52 ?_
        refine r_iald (500 : Int) rfl X hw sh_108 dX12_joins_55 hf (fun hf => ?_)
        refine lv_iconst (v := mI 0) hx hb dX12_joins_56 rfl ?_
        refine r_cvv (rest := []) [.int (mI (σ103 108 (mw (σ103 86 40)).toNat)), .int (mI 0)] X hw (fun ra σa h => c_X12_add l D cy ad bs F (σ103 108 (mw (σ103 86 40)).toNat) 0 σ103 ra σa  h) sh_86 rfl (by decide) rfl km_X12_add kv_X12_add lm_X12_325 dX12_joins_57 hl.1 rfl rfl (Nat.le_of_ble_eq_true rfl) ⟨by decide, by decide⟩ ⟨Nat.zero_le _, Nat.zero_le _⟩ hf (fun r104 σ105 _ hf H locs hw => ?_)
        refine lv_aload_n hx hb dX12_joins_60 rfl (lv_at hl 0 rfl) ?_
        refine r_getr 108 X hw sh_86 fd_12_39 rfl rfl lf_X12_132 dX12_joins_61 ?_
        refine lv_aload_n hx hb dX12_joins_64 rfl (lv_at hl 0 rfl) ?_
        refine r_geti X hw sh_86 fd_12_40 rfl lf_X12_135 dX12_joins_65 ?_
        refine r_iald (500 : Int) rfl X hw sh_108 dX12_joins_68 hf (fun hf => ?_)
        refine lv_bipush (v := mI 43) hx hb dX12_joins_69 (by decide) ?_
        refine r_icmp_ne (tgt := 0) X dX12_joins_71 (by decide) hf (fun hc hf => ?_) (fun hc hf => ?_)
        · exact hk0 x1 σ105 _ _ _ hw (lv_sub hl [0, 1] rfl) hf
        · refine lv_aload_n hx hb dX12_joins_74 rfl (lv_at hl 0 rfl) ?_
          refine lv_dup hx hb dX12_joins_75 rfl ?_
          refine r_geti X hw sh_86 fd_12_38 rfl lf_X12_129 dX12_joins_76 ?_
          refine lv_iconst (v := mI 1) hx hb dX12_joins_79 rfl ?_
          refine r_isub X dX12_joins_80 ?_
          refine r_puti X hw sh_86 fd_12_38 fp_12_38 rfl rfl lf_X12_129 dX12_joins_81 (fun H locs hw => ?_)
          refine r_mem hf hw (fun σ106 hw hf => ?_)
          refine lv_goto (tgt := 0) hx hb dX12_joins_84 (by decide) ?_
          exact hk0 x1 σ106 _ _ _ hw (lv_sub hl [0, 1] rfl) hf
def g_X12_joins (F : Nat) (x1 : Int) (σ : mMem) : mRs := g_X12_joins_h0 F F x1 σ
set_option maxRecDepth 100000 in
set_option maxHeartbeats 4000000 in
theorem c_X12_joins (l : Launch) (D : va_G) (cy : Nat → ClassId) (ad : Nat → Nat) (bs : Nat) (F : Nat)  (x1 : Int) (σ : mMem) (r : Int) (σ' : mMem)  (hf : g_X12_joins F x1 σ = some (r, σ')) : mCv l D cy ad bs yX12_joins cX12_joins 2 none 2 [.ref (ad 86), .int (mI x1)] σ σ' := by
  refine mCv.of (lv := [(0, .ref (ad 86)), (1, .int (mI x1))]) km_X12_joins.2.2.2.2.2 (Nat.le_of_ble_eq_true rfl) rfl (fun p e s m args below meth c H locs ls X hw hl => ?_)
  obtain ⟨⟨hx, hb, -, -, -⟩, -⟩ := id X
  unfold g_X12_joins at hf
  exact w_X12_joins_h0 X _ hw (lv_sub hl [0, 1] rfl) hf
def g_X12_holdsBack (F : Nat) (x1 : Int) (σ : mMem) : mRs := if 0 ≤ mw (σ 86 40) ∧ mw (σ 86 40) < (500 : Int) then mlm (mup σ 108 (mw (σ 86 40)).toNat x1) (fun σ1 => mlm (mup σ1 86 40 ((σ1 86 40) + 1)) (fun σ2 => some (0, σ2))) else none
set_option maxRecDepth 100000 in
set_option maxHeartbeats 4000000 in
theorem c_X12_holdsBack (l : Launch) (D : va_G) (cy : Nat → ClassId) (ad : Nat → Nat) (bs : Nat) (F : Nat)  (x1 : Int) (σ : mMem) (r : Int) (σ' : mMem)  (hf : g_X12_holdsBack F x1 σ = some (r, σ')) : mCv l D cy ad bs yX12_holdsBack cX12_holdsBack 2 none 1 [.ref (ad 86), .int (mI x1)] σ σ' := by
  refine mCv.of (lv := [(0, .ref (ad 86)), (1, .int (mI x1))]) km_X12_holdsBack.2.2.2.2.2 (Nat.le_of_ble_eq_true rfl) rfl (fun p e s m args below meth c H locs ls X hw hl => ?_)
  obtain ⟨⟨hx, hb, -, -, -⟩, -⟩ := id X
  unfold g_X12_holdsBack at hf
  refine lv_aload_n hx hb dX12_holdsBack_0 rfl (lv_at hl 0 rfl) ?_
  refine r_getr 108 X hw sh_86 fd_12_39 rfl rfl lf_X12_132 dX12_holdsBack_1 ?_
  refine lv_aload_n hx hb dX12_holdsBack_4 rfl (lv_at hl 0 rfl) ?_
  refine r_geti X hw sh_86 fd_12_40 rfl lf_X12_135 dX12_holdsBack_5 ?_
  refine lv_iload_n hx hb dX12_holdsBack_8 rfl (lv_at hl 1 rfl) ?_
  refine r_iast (500 : Int) rfl X hw sh_108 dX12_holdsBack_9 hf (fun hf H locs hw => ?_)
  refine r_mem hf hw (fun σ1 hw hf => ?_)
  refine lv_aload_n hx hb dX12_holdsBack_10 rfl (lv_at hl 0 rfl) ?_
  refine lv_dup hx hb dX12_holdsBack_11 rfl ?_
  refine r_geti X hw sh_86 fd_12_40 rfl lf_X12_135 dX12_holdsBack_12 ?_
  refine lv_iconst (v := mI 1) hx hb dX12_holdsBack_15 rfl ?_
  refine r_iadd X dX12_holdsBack_16 ?_
  refine r_puti X hw sh_86 fd_12_40 fp_12_40 rfl rfl lf_X12_135 dX12_holdsBack_17 (fun H locs hw => ?_)
  refine r_mem hf hw (fun σ2 hw hf => ?_)
  exact r_vret X hw dX12_holdsBack_20 hf
def g_X12_pushes (F : Nat) (x1 : Int) (σ : mMem) : mRs := if 0 ≤ mw (σ 86 37) ∧ mw (σ 86 37) < (20 : Int) then mlm (mup σ 103 (mw (σ 86 37)).toNat x1) (fun σ1 => if 0 ≤ mw (σ1 86 37) ∧ mw (σ1 86 37) < (20 : Int) then mlm (mup σ1 104 (mw (σ1 86 37)).toNat 0) (fun σ2 => if 0 ≤ mw (σ2 86 37) ∧ mw (σ2 86 37) < (20 : Int) ∧ (mw 1 = 0 ∨ mw 1 = 1) then mlm (mup σ2 105 (mw (σ2 86 37)).toNat 1) (fun σ3 => if 0 ≤ mw (σ3 86 37) ∧ mw (σ3 86 37) < (20 : Int) then mlm (mup σ3 107 (mw (σ3 86 37)).toNat (σ3 86 40)) (fun σ4 => mlm (mup σ4 86 37 ((σ4 86 37) + 1)) (fun σ5 => some (0, σ5))) else none) else none) else none) else none
set_option maxRecDepth 100000 in
set_option maxHeartbeats 4000000 in
theorem c_X12_pushes (l : Launch) (D : va_G) (cy : Nat → ClassId) (ad : Nat → Nat) (bs : Nat) (F : Nat)  (x1 : Int) (σ : mMem) (r : Int) (σ' : mMem)  (hf : g_X12_pushes F x1 σ = some (r, σ')) : mCv l D cy ad bs yX12_pushes cX12_pushes 2 none 1 [.ref (ad 86), .int (mI x1)] σ σ' := by
  refine mCv.of (lv := [(0, .ref (ad 86)), (1, .int (mI x1))]) km_X12_pushes.2.2.2.2.2 (Nat.le_of_ble_eq_true rfl) rfl (fun p e s m args below meth c H locs ls X hw hl => ?_)
  obtain ⟨⟨hx, hb, -, -, -⟩, -⟩ := id X
  unfold g_X12_pushes at hf
  refine lv_aload_n hx hb dX12_pushes_0 rfl (lv_at hl 0 rfl) ?_
  refine r_getr 103 X hw sh_86 fd_12_32 rfl rfl lf_X12_110 dX12_pushes_1 ?_
  refine lv_aload_n hx hb dX12_pushes_4 rfl (lv_at hl 0 rfl) ?_
  refine r_geti X hw sh_86 fd_12_37 rfl lf_X12_126 dX12_pushes_5 ?_
  refine lv_iload_n hx hb dX12_pushes_8 rfl (lv_at hl 1 rfl) ?_
  refine r_iast (20 : Int) rfl X hw sh_103 dX12_pushes_9 hf (fun hf H locs hw => ?_)
  refine r_mem hf hw (fun σ1 hw hf => ?_)
  refine lv_aload_n hx hb dX12_pushes_10 rfl (lv_at hl 0 rfl) ?_
  refine r_getr 104 X hw sh_86 fd_12_33 rfl rfl lf_X12_113 dX12_pushes_11 ?_
  refine lv_aload_n hx hb dX12_pushes_14 rfl (lv_at hl 0 rfl) ?_
  refine r_geti X hw sh_86 fd_12_37 rfl lf_X12_126 dX12_pushes_15 ?_
  refine lv_iconst (v := mI 0) hx hb dX12_pushes_18 rfl ?_
  refine r_iast (20 : Int) rfl X hw sh_104 dX12_pushes_19 hf (fun hf H locs hw => ?_)
  refine r_mem hf hw (fun σ2 hw hf => ?_)
  refine lv_aload_n hx hb dX12_pushes_20 rfl (lv_at hl 0 rfl) ?_
  refine r_getr 105 X hw sh_86 fd_12_34 rfl rfl lf_X12_116 dX12_pushes_21 ?_
  refine lv_aload_n hx hb dX12_pushes_24 rfl (lv_at hl 0 rfl) ?_
  refine r_geti X hw sh_86 fd_12_37 rfl lf_X12_126 dX12_pushes_25 ?_
  refine lv_iconst (v := mI 1) hx hb dX12_pushes_28 rfl ?_
  refine r_zast (20 : Int) rfl X hw sh_105 dX12_pushes_29 hf (fun hf H locs hw => ?_)
  refine r_mem hf hw (fun σ3 hw hf => ?_)
  refine lv_aload_n hx hb dX12_pushes_30 rfl (lv_at hl 0 rfl) ?_
  refine r_getr 107 X hw sh_86 fd_12_36 rfl rfl lf_X12_123 dX12_pushes_31 ?_
  refine lv_aload_n hx hb dX12_pushes_34 rfl (lv_at hl 0 rfl) ?_
  refine r_geti X hw sh_86 fd_12_37 rfl lf_X12_126 dX12_pushes_35 ?_
  refine lv_aload_n hx hb dX12_pushes_38 rfl (lv_at hl 0 rfl) ?_
  refine r_geti X hw sh_86 fd_12_40 rfl lf_X12_135 dX12_pushes_39 ?_
  refine r_iast (20 : Int) rfl X hw sh_107 dX12_pushes_42 hf (fun hf H locs hw => ?_)
  refine r_mem hf hw (fun σ4 hw hf => ?_)
  refine lv_aload_n hx hb dX12_pushes_43 rfl (lv_at hl 0 rfl) ?_
  refine lv_dup hx hb dX12_pushes_44 rfl ?_
  refine r_geti X hw sh_86 fd_12_37 rfl lf_X12_126 dX12_pushes_45 ?_
  refine lv_iconst (v := mI 1) hx hb dX12_pushes_48 rfl ?_
  refine r_iadd X dX12_pushes_49 ?_
  refine r_puti X hw sh_86 fd_12_37 fp_12_37 rfl rfl lf_X12_126 dX12_pushes_50 (fun H locs hw => ?_)
  refine r_mem hf hw (fun σ5 hw hf => ?_)
  exact r_vret X hw dX12_pushes_53 hf
def g_X12_opens_b18 (F : Nat)  (x1 : Int) (σ : mMem) : mRs := if mw (σ 86 8) ≤ 0 then (mlm (mup σ 86 38 ((σ 86 38) + 1)) (fun σ103 => mob (g_X12_ahead F σ103) (fun r104 σ105 => mob (g_X12_pushes F x1 σ105) (fun r106 σ107 => some (0, σ107))))) else (some (0, σ))
set_option maxRecDepth 100000 in
set_option maxHeartbeats 4000000 in
theorem w_X12_opens_b18 {p : Program} {l : Launch} {e : Env} {s : State} {m : MethodId} {args : Array Value} {below : List Frame} {meth : Method} {c : Code} {D : va_G} {cy : Nat → ClassId} {ad : Nat → Nat} {bs : Nat} {F : Nat}  (X : mCx p m c cX12_opens 2 s args RX12 meth D cy none)  {r : Int} {σ' : mMem}   {x1 : Int} {σ : mMem} {H : Heap} {locs : List Loc} {ls : Array Slot} (hw : mWd D cy ad bs true mN σ s.heap H locs) (hl : lv_has ls 2 [(0, .ref (ad 86)), (1, .int (mI x1))]) (hf : g_X12_opens_b18 F x1 σ = some (r, σ')) : mGv p l e 3 s m args below meth c D cy ad bs σ' H locs (F0 m 18 ls []) := by
  obtain ⟨⟨hx, hb, -, -, -⟩, -⟩ := id X
  unfold g_X12_opens_b18 at hf
  refine lv_aload_n hx hb dX12_opens_18 rfl (lv_at hl 0 rfl) ?_
  refine r_geti X hw sh_86 fd_12_8 rfl lf_X12_36 dX12_opens_19 ?_
  refine r_if_le (tgt := 26) X dX12_opens_22 (by decide) hf (fun hc hf => ?_) (fun hc hf => ?_)
  · refine lv_aload_n hx hb dX12_opens_26 rfl (lv_at hl 0 rfl) ?_
    refine lv_dup hx hb dX12_opens_27 rfl ?_
    refine r_geti X hw sh_86 fd_12_38 rfl lf_X12_129 dX12_opens_28 ?_
    refine lv_iconst (v := mI 1) hx hb dX12_opens_31 rfl ?_
    refine r_iadd X dX12_opens_32 ?_
    refine r_puti X hw sh_86 fd_12_38 fp_12_38 rfl rfl lf_X12_129 dX12_opens_33 (fun H locs hw => ?_)
    refine r_mem hf hw (fun σ103 hw hf => ?_)
    refine lv_aload_n hx hb dX12_opens_36 rfl (lv_at hl 0 rfl) ?_
    refine r_cvv (rest := []) [] X hw (fun ra σa h => c_X12_ahead l D cy ad bs F σ103 ra σa  h) sh_86 rfl (by decide) rfl km_X12_ahead kv_X12_ahead lm_X12_259 dX12_opens_37 hl.1 rfl rfl (Nat.le_of_ble_eq_true rfl) ⟨by decide, by decide⟩ ⟨Nat.zero_le _, Nat.zero_le _⟩ hf (fun r104 σ105 _ hf H locs hw => ?_)
    refine lv_aload_n hx hb dX12_opens_40 rfl (lv_at hl 0 rfl) ?_
    refine lv_iload_n hx hb dX12_opens_41 rfl (lv_at hl 1 rfl) ?_
    refine r_cvv (rest := []) [.int (mI x1)] X hw (fun ra σa h => c_X12_pushes l D cy ad bs F x1 σ105 ra σa  h) sh_86 rfl (by decide) rfl km_X12_pushes kv_X12_pushes lm_X12_328 dX12_opens_42 hl.1 rfl rfl (Nat.le_of_ble_eq_true rfl) ⟨by decide, by decide⟩ ⟨Nat.zero_le _, Nat.zero_le _⟩ hf (fun r106 σ107 _ hf H locs hw => ?_)
    exact r_vret X hw dX12_opens_45 hf
  · exact r_vret X hw dX12_opens_25 hf
def g_X12_opens (F : Nat) (x1 : Int) (σ : mMem) : mRs := if ¬ mw (σ 86 38) = mw 7 then (g_X12_opens_b18 F x1 σ) else (mob (g_X12_blame F 5 (σ 86 4) σ) (fun r1 σ2 => g_X12_opens_b18 F x1 σ2))
set_option maxRecDepth 100000 in
set_option maxHeartbeats 4000000 in
theorem c_X12_opens (l : Launch) (D : va_G) (cy : Nat → ClassId) (ad : Nat → Nat) (bs : Nat) (F : Nat)  (x1 : Int) (σ : mMem) (r : Int) (σ' : mMem)  (hf : g_X12_opens F x1 σ = some (r, σ')) : mCv l D cy ad bs yX12_opens cX12_opens 2 none 3 [.ref (ad 86), .int (mI x1)] σ σ' := by
  refine mCv.of (lv := [(0, .ref (ad 86)), (1, .int (mI x1))]) km_X12_opens.2.2.2.2.2 (Nat.le_of_ble_eq_true rfl) rfl (fun p e s m args below meth c H locs ls X hw hl => ?_)
  obtain ⟨⟨hx, hb, -, -, -⟩, -⟩ := id X
  unfold g_X12_opens at hf
  refine lv_aload_n hx hb dX12_opens_0 rfl (lv_at hl 0 rfl) ?_
  refine r_geti X hw sh_86 fd_12_38 rfl lf_X12_129 dX12_opens_1 ?_
  refine lv_bipush (v := mI 7) hx hb dX12_opens_4 (by decide) ?_
  refine r_icmp_ne (tgt := 18) X dX12_opens_6 (by decide) hf (fun hc hf => ?_) (fun hc hf => ?_)
  · exact w_X12_opens_b18 X hw (lv_sub hl [0, 1] rfl) hf
  · refine lv_aload_n hx hb dX12_opens_9 rfl (lv_at hl 0 rfl) ?_
    refine lv_iconst (v := mI 5) hx hb dX12_opens_10 rfl ?_
    refine lv_aload_n hx hb dX12_opens_11 rfl (lv_at hl 0 rfl) ?_
    refine r_geti X hw sh_86 fd_12_4 rfl lf_X12_23 dX12_opens_12 ?_
    refine r_cvv (rest := []) [.int (mI 5), .int (mI (σ 86 4))] X hw (fun ra σa h => c_X12_blame l D cy ad bs F 5 (σ 86 4) σ ra σa  h) sh_86 rfl (by decide) rfl km_X12_blame kv_X12_blame lm_X12_242 dX12_opens_15 hl.1 rfl rfl (Nat.le_of_ble_eq_true rfl) ⟨by decide, by decide⟩ ⟨Nat.zero_le _, Nat.zero_le _⟩ hf (fun r1 σ2 _ hf H locs hw => ?_)
    exact w_X12_opens_b18 X hw (lv_sub hl [0, 1] rfl) hf
def g_X12_isTest_b21 (F : Nat)  (t0 : Int) (σ : mMem) : mRs := if mw t0 = 0 ∨ mw t0 = 1 then some (t0, σ) else none
set_option maxRecDepth 100000 in
set_option maxHeartbeats 4000000 in
theorem w_X12_isTest_b21 {p : Program} {l : Launch} {e : Env} {s : State} {m : MethodId} {args : Array Value} {below : List Frame} {meth : Method} {c : Code} {D : va_G} {cy : Nat → ClassId} {ad : Nat → Nat} {bs : Nat} {F : Nat}  (X : mCx p m c cX12_isTest 1 s args RX12 meth D cy (some .boolean))  {r : Int} {σ' : mMem}   {t0 : Int} {σ : mMem} {H : Heap} {locs : List Loc} {ls : Array Slot} (hw : mWd D cy ad bs true mN σ s.heap H locs) (hl : lv_has ls 1 []) (hf : g_X12_isTest_b21 F t0 σ = some (r, σ')) : mGi p l e 1 s m args below meth c D cy ad bs r σ' H locs (F0 m 21 ls [.int (mI t0)]) := by
  obtain ⟨⟨hx, hb, -, -, -⟩, -⟩ := id X
  unfold g_X12_isTest_b21 at hf
  exact r_zret X hw dX12_isTest_21 hf
def g_X12_isTest_b16 (F : Nat)  (σ : mMem) : mRs := g_X12_isTest_b21 F 1 σ
set_option maxRecDepth 100000 in
set_option maxHeartbeats 4000000 in
theorem w_X12_isTest_b16 {p : Program} {l : Launch} {e : Env} {s : State} {m : MethodId} {args : Array Value} {below : List Frame} {meth : Method} {c : Code} {D : va_G} {cy : Nat → ClassId} {ad : Nat → Nat} {bs : Nat} {F : Nat}  (X : mCx p m c cX12_isTest 1 s args RX12 meth D cy (some .boolean))  {r : Int} {σ' : mMem}    {σ : mMem} {H : Heap} {locs : List Loc} {ls : Array Slot} (hw : mWd D cy ad bs true mN σ s.heap H locs) (hl : lv_has ls 1 []) (hf : g_X12_isTest_b16 F  σ = some (r, σ')) : mGi p l e 1 s m args below meth c D cy ad bs r σ' H locs (F0 m 16 ls []) := by
  obtain ⟨⟨hx, hb, -, -, -⟩, -⟩ := id X
  unfold g_X12_isTest_b16 at hf
  refine lv_iconst (v := mI 1) hx hb dX12_isTest_16 rfl ?_
  refine lv_goto (tgt := 21) hx hb dX12_isTest_17 (by decide) ?_
  exact w_X12_isTest_b21 X hw (lv_sub hl [] rfl) hf
def g_X12_isTest (F : Nat) (x0 : Int) (σ : mMem) : mRs := if mw x0 = mw 1 then (g_X12_isTest_b16 F σ) else (if mw x0 = mw 5 then (g_X12_isTest_b16 F σ) else (if ¬ mw x0 = mw 6 then (g_X12_isTest_b21 F 0 σ) else (g_X12_isTest_b16 F σ)))
set_option maxRecDepth 100000 in
set_option maxHeartbeats 4000000 in
theorem c_X12_isTest (l : Launch) (D : va_G) (cy : Nat → ClassId) (ad : Nat → Nat) (bs : Nat) (F : Nat)  (x0 : Int) (σ : mMem) (r : Int) (σ' : mMem)  (hf : g_X12_isTest F x0 σ = some (r, σ')) : mCi l D cy ad bs yX12_isTest cX12_isTest 1 (some .boolean) 1 [.int (mI x0)] σ r σ' := by
  refine mCi.of (lv := [(0, .int (mI x0))]) km_X12_isTest.2.2.2.2.2 (Nat.le_of_ble_eq_true rfl) rfl (fun p e s m args below meth c H locs ls X hw hl => ?_)
  obtain ⟨⟨hx, hb, -, -, -⟩, -⟩ := id X
  unfold g_X12_isTest at hf
  refine lv_iload_n hx hb dX12_isTest_0 rfl (lv_at hl 0 rfl) ?_
  refine lv_iconst (v := mI 1) hx hb dX12_isTest_1 rfl ?_
  refine r_icmp_eq (tgt := 16) X dX12_isTest_2 (by decide) hf (fun hc hf => ?_) (fun hc hf => ?_)
  · exact w_X12_isTest_b16 X hw (lv_sub hl [] rfl) hf
  · refine lv_iload_n hx hb dX12_isTest_5 rfl (lv_at hl 0 rfl) ?_
    refine lv_iconst (v := mI 5) hx hb dX12_isTest_6 rfl ?_
    refine r_icmp_eq (tgt := 16) X dX12_isTest_7 (by decide) hf (fun hc hf => ?_) (fun hc hf => ?_)
    · exact w_X12_isTest_b16 X hw (lv_sub hl [] rfl) hf
    · refine lv_iload_n hx hb dX12_isTest_10 rfl (lv_at hl 0 rfl) ?_
      refine lv_bipush (v := mI 6) hx hb dX12_isTest_11 (by decide) ?_
      refine r_icmp_ne (tgt := 20) X dX12_isTest_13 (by decide) hf (fun hc hf => ?_) (fun hc hf => ?_)
      · refine lv_iconst (v := mI 0) hx hb dX12_isTest_20 rfl ?_
        exact w_X12_isTest_b21 X hw (lv_sub hl [] rfl) hf
      · exact w_X12_isTest_b16 X hw (lv_sub hl [] rfl) hf
def g_X12_operand_b311 (F : Nat)  (σ : mMem) : mRs := if mw 0 = 0 ∨ mw 0 = 1 then some (0, σ) else none
set_option maxRecDepth 100000 in
set_option maxHeartbeats 4000000 in
theorem w_X12_operand_b311 {p : Program} {l : Launch} {e : Env} {s : State} {m : MethodId} {args : Array Value} {below : List Frame} {meth : Method} {c : Code} {D : va_G} {cy : Nat → ClassId} {ad : Nat → Nat} {bs : Nat} {F : Nat}  (X : mCx p m c cX12_operand 4 s args RX12 meth D cy (some .boolean))  {r : Int} {σ' : mMem}    {σ : mMem} {H : Heap} {locs : List Loc} {ls : Array Slot} (hw : mWd D cy ad bs true mN σ s.heap H locs) (hl : lv_has ls 4 [(0, .ref (ad 86))]) (hf : g_X12_operand_b311 F  σ = some (r, σ')) : mGi p l e 4 s m args below meth c D cy ad bs r σ' H locs (F0 m 311 ls []) := by
  obtain ⟨⟨hx, hb, -, -, -⟩, -⟩ := id X
  unfold g_X12_operand_b311 at hf
  refine lv_iconst (v := mI 0) hx hb dX12_operand_311 rfl ?_
  exact r_zret X hw dX12_operand_312 hf
def g_X12_operand_b289 (F : Nat)  (x3 t0 : Int) (σ : mMem) : mRs := mob (g_X12_opens F t0 σ) (fun r1369 σ1370 => if ¬ mw (σ1370 86 8) = 0 then (g_X12_operand_b311 F σ1370) else (if 0 ≤ mw ((σ1370 86 37) - 1) ∧ mw ((σ1370 86 37) - 1) < (20 : Int) then mlm (mup σ1370 106 (mw ((σ1370 86 37) - 1)).toNat x3) (fun σ1371 => g_X12_operand_b311 F σ1371) else none))
set_option maxRecDepth 100000 in
set_option maxHeartbeats 4000000 in
theorem w_X12_operand_b289 {p : Program} {l : Launch} {e : Env} {s : State} {m : MethodId} {args : Array Value} {below : List Frame} {meth : Method} {c : Code} {D : va_G} {cy : Nat → ClassId} {ad : Nat → Nat} {bs : Nat} {F : Nat}  (X : mCx p m c cX12_operand 4 s args RX12 meth D cy (some .boolean))  {r : Int} {σ' : mMem}   {x3 t0 : Int} {σ : mMem} {H : Heap} {locs : List Loc} {ls : Array Slot} (hw : mWd D cy ad bs true mN σ s.heap H locs) (hl : lv_has ls 4 [(0, .ref (ad 86)), (3, .int (mI x3))]) (hf : g_X12_operand_b289 F x3 t0 σ = some (r, σ')) : mGi p l e 4 s m args below meth c D cy ad bs r σ' H locs (F0 m 289 ls [.int (mI t0), .ref (ad 86)]) := by
  obtain ⟨⟨hx, hb, -, -, -⟩, -⟩ := id X
  unfold g_X12_operand_b289 at hf
  refine r_cvv (rest := []) [.int (mI t0)] X hw (fun ra σa h => c_X12_opens l D cy ad bs F t0 σ ra σa  h) sh_86 rfl (by decide) rfl km_X12_opens kv_X12_opens lm_X12_341 dX12_operand_289 hl.1 rfl rfl (Nat.le_of_ble_eq_true rfl) ⟨by decide, by decide⟩ ⟨Nat.zero_le _, Nat.zero_le _⟩ hf (fun r1369 σ1370 _ hf H locs hw => ?_)
  refine lv_aload_n hx hb dX12_operand_292 rfl (lv_at hl 0 rfl) ?_
  refine r_geti X hw sh_86 fd_12_8 rfl lf_X12_36 dX12_operand_293 ?_
  refine r_if_ne (tgt := 311) X dX12_operand_296 (by decide) hf (fun hc hf => ?_) (fun hc hf => ?_)
  · exact w_X12_operand_b311 X hw (lv_sub hl [0] rfl) hf
  · refine lv_aload_n hx hb dX12_operand_299 rfl (lv_at hl 0 rfl) ?_
    refine r_getr 106 X hw sh_86 fd_12_35 rfl rfl lf_X12_120 dX12_operand_300 ?_
    refine lv_aload_n hx hb dX12_operand_303 rfl (lv_at hl 0 rfl) ?_
    refine r_geti X hw sh_86 fd_12_37 rfl lf_X12_126 dX12_operand_304 ?_
    refine lv_iconst (v := mI 1) hx hb dX12_operand_307 rfl ?_
    refine r_isub X dX12_operand_308 ?_
    refine lv_iload_n hx hb dX12_operand_309 rfl (lv_at hl 1 rfl) ?_
    refine r_iast (20 : Int) rfl X hw sh_106 dX12_operand_310 hf (fun hf H locs hw => ?_)
    refine r_mem hf hw (fun σ1371 hw hf => ?_)
    exact w_X12_operand_b311 X hw (lv_sub hl [0] rfl) hf
def g_X12_operand_b276 (F : Nat)  (x3 : Int) (σ : mMem) : mRs := if ¬ mw x3 = mw 44 then (g_X12_operand_b289 F x3 3 σ) else (g_X12_operand_b289 F x3 6 σ)
set_option maxRecDepth 100000 in
set_option maxHeartbeats 4000000 in
theorem w_X12_operand_b276 {p : Program} {l : Launch} {e : Env} {s : State} {m : MethodId} {args : Array Value} {below : List Frame} {meth : Method} {c : Code} {D : va_G} {cy : Nat → ClassId} {ad : Nat → Nat} {bs : Nat} {F : Nat}  (X : mCx p m c cX12_operand 4 s args RX12 meth D cy (some .boolean))  {r : Int} {σ' : mMem}   {x3 : Int} {σ : mMem} {H : Heap} {locs : List Loc} {ls : Array Slot} (hw : mWd D cy ad bs true mN σ s.heap H locs) (hl : lv_has ls 4 [(0, .ref (ad 86)), (3, .int (mI x3))]) (hf : g_X12_operand_b276 F x3 σ = some (r, σ')) : mGi p l e 4 s m args below meth c D cy ad bs r σ' H locs (F0 m 276 ls []) := by
  obtain ⟨⟨hx, hb, -, -, -⟩, -⟩ := id X
  unfold g_X12_operand_b276 at hf
  refine lv_aload_n hx hb dX12_operand_276 rfl (lv_at hl 0 rfl) ?_
  refine lv_iload_n hx hb dX12_operand_277 rfl (lv_at hl 1 rfl) ?_
  refine lv_bipush (v := mI 44) hx hb dX12_operand_278 (by decide) ?_
  refine r_icmp_ne (tgt := 288) X dX12_operand_280 (by decide) hf (fun hc hf => ?_) (fun hc hf => ?_)
  · refine lv_iconst (v := mI 3) hx hb dX12_operand_288 rfl ?_
    exact w_X12_operand_b289 X hw (lv_sub hl [0, 1] rfl) hf
  · refine lv_bipush (v := mI 6) hx hb dX12_operand_283 (by decide) ?_
    refine lv_goto (tgt := 289) hx hb dX12_operand_285 (by decide) ?_
    exact w_X12_operand_b289 X hw (lv_sub hl [0, 1] rfl) hf
def g_X12_operand_b249 (F : Nat)  (t0 : Int) (σ : mMem) : mRs := mob (g_X12_ahead F σ) (fun r955 σ956 => mob (g_X12_lex F σ956) (fun r957 σ958 => mob (g_X12_isSign F 40 σ958) (fun r959 σ960 => if ¬ mw r959 = 0 then (g_X12_operand_b276 F t0 σ960) else (mob (g_X12_blame F 1 (σ960 86 4) σ960) (fun r961 σ962 => g_X12_operand_b276 F t0 σ962)))))
set_option maxRecDepth 100000 in
set_option maxHeartbeats 4000000 in
theorem w_X12_operand_b249 {p : Program} {l : Launch} {e : Env} {s : State} {m : MethodId} {args : Array Value} {below : List Frame} {meth : Method} {c : Code} {D : va_G} {cy : Nat → ClassId} {ad : Nat → Nat} {bs : Nat} {F : Nat}  (X : mCx p m c cX12_operand 4 s args RX12 meth D cy (some .boolean))  {r : Int} {σ' : mMem}   {t0 : Int} {σ : mMem} {H : Heap} {locs : List Loc} {ls : Array Slot} (hw : mWd D cy ad bs true mN σ s.heap H locs) (hl : lv_has ls 4 [(0, .ref (ad 86))]) (hf : g_X12_operand_b249 F t0 σ = some (r, σ')) : mGi p l e 4 s m args below meth c D cy ad bs r σ' H locs (F0 m 249 ls [.int (mI t0)]) := by
  obtain ⟨⟨hx, hb, -, -, -⟩, -⟩ := id X
  unfold g_X12_operand_b249 at hf
  refine lv_istore_n (lv' := [(3, .int (mI t0)), (0, .ref (ad 86))]) hx hb dX12_operand_249 rfl hl (by decide) rfl (fun ls hl => ?_)
  refine lv_aload_n hx hb dX12_operand_250 rfl (lv_at hl 1 rfl) ?_
  refine r_cvv (rest := []) [] X hw (fun ra σa h => c_X12_ahead l D cy ad bs F σ ra σa  h) sh_86 rfl (by decide) rfl km_X12_ahead kv_X12_ahead lm_X12_259 dX12_operand_251 hl.1 rfl rfl (Nat.le_of_ble_eq_true rfl) ⟨by decide, by decide⟩ ⟨Nat.zero_le _, Nat.zero_le _⟩ hf (fun r955 σ956 _ hf H locs hw => ?_)
  refine lv_aload_n hx hb dX12_operand_254 rfl (lv_at hl 1 rfl) ?_
  refine r_cvv (rest := []) [] X hw (fun ra σa h => c_X12_lex l D cy ad bs F σ956 ra σa  h) sh_86 rfl (by decide) rfl km_X12_lex kv_X12_lex lm_X12_253 dX12_operand_255 hl.1 rfl rfl (Nat.le_of_ble_eq_true rfl) ⟨by decide, by decide⟩ ⟨Nat.zero_le _, Nat.zero_le _⟩ hf (fun r957 σ958 _ hf H locs hw => ?_)
  refine lv_aload_n hx hb dX12_operand_258 rfl (lv_at hl 1 rfl) ?_
  refine lv_bipush (v := mI 40) hx hb dX12_operand_259 (by decide) ?_
  refine r_cvi (rest := []) [.int (mI 40)] X hw (fun ra σa h => c_X12_isSign l D cy ad bs F 40 σ958 ra σa  h) sh_86 rfl (by decide) rfl km_X12_isSign kv_X12_isSign lm_X12_256 dX12_operand_261 hl.1 rfl rfl (Nat.le_of_ble_eq_true rfl) ⟨by decide, by decide⟩ ⟨Nat.zero_le _, Nat.zero_le _⟩ hf (fun r959 σ960 _ hf H locs hw => ?_)
  refine r_if_ne (tgt := 276) X dX12_operand_264 (by decide) hf (fun hc hf => ?_) (fun hc hf => ?_)
  · exact w_X12_operand_b276 X hw (lv_sub hl [1, 0] rfl) hf
  · refine lv_aload_n hx hb dX12_operand_267 rfl (lv_at hl 1 rfl) ?_
    refine lv_iconst (v := mI 1) hx hb dX12_operand_268 rfl ?_
    refine lv_aload_n hx hb dX12_operand_269 rfl (lv_at hl 1 rfl) ?_
    refine r_geti X hw sh_86 fd_12_4 rfl lf_X12_23 dX12_operand_270 ?_
    refine r_cvv (rest := []) [.int (mI 1), .int (mI (σ960 86 4))] X hw (fun ra σa h => c_X12_blame l D cy ad bs F 1 (σ960 86 4) σ960 ra σa  h) sh_86 rfl (by decide) rfl km_X12_blame kv_X12_blame lm_X12_242 dX12_operand_273 hl.1 rfl rfl (Nat.le_of_ble_eq_true rfl) ⟨by decide, by decide⟩ ⟨Nat.zero_le _, Nat.zero_le _⟩ hf (fun r961 σ962 _ hf H locs hw => ?_)
    exact w_X12_operand_b276 X hw (lv_sub hl [1, 0] rfl) hf
def g_X12_operand_b217 (F : Nat)  (σ : mMem) : mRs := mob (g_X12_isWord F 7170414 σ) (fun r751 σ752 => if mw r751 = 0 then (mob (g_X12_isWord F 7168376 σ752) (fun r753 σ754 => if mw r753 = 0 then (g_X12_operand_b249 F 44 σ754) else (g_X12_operand_b249 F 37 σ754))) else (g_X12_operand_b249 F 36 σ752))
set_option maxRecDepth 100000 in
set_option maxHeartbeats 4000000 in
theorem w_X12_operand_b217 {p : Program} {l : Launch} {e : Env} {s : State} {m : MethodId} {args : Array Value} {below : List Frame} {meth : Method} {c : Code} {D : va_G} {cy : Nat → ClassId} {ad : Nat → Nat} {bs : Nat} {F : Nat}  (X : mCx p m c cX12_operand 4 s args RX12 meth D cy (some .boolean))  {r : Int} {σ' : mMem}    {σ : mMem} {H : Heap} {locs : List Loc} {ls : Array Slot} (hw : mWd D cy ad bs true mN σ s.heap H locs) (hl : lv_has ls 4 [(0, .ref (ad 86))]) (hf : g_X12_operand_b217 F  σ = some (r, σ')) : mGi p l e 4 s m args below meth c D cy ad bs r σ' H locs (F0 m 217 ls []) := by
  obtain ⟨⟨hx, hb, -, -, -⟩, -⟩ := id X
  unfold g_X12_operand_b217 at hf
  refine lv_aload_n hx hb dX12_operand_217 rfl (lv_at hl 0 rfl) ?_
  refine r_ldc2 (z := 7170414) (by decide) X lc_X12_314 dX12_operand_218 ?_
  refine r_cvi (rest := []) [.long (mL 7170414)] X hw (fun ra σa h => c_X12_isWord l D cy ad bs F 7170414 σ ra σa  h) sh_86 rfl (by decide) rfl km_X12_isWord kv_X12_isWord lm_X12_334 dX12_operand_221 hl.1 rfl rfl (Nat.le_of_ble_eq_true rfl) ⟨by decide, by decide⟩ ⟨Nat.zero_le _, Nat.zero_le _⟩ hf (fun r751 σ752 _ hf H locs hw => ?_)
  refine r_if_eq (tgt := 232) X dX12_operand_224 (by decide) hf (fun hc hf => ?_) (fun hc hf => ?_)
  · refine lv_aload_n hx hb dX12_operand_232 rfl (lv_at hl 0 rfl) ?_
    refine r_ldc2 (z := 7168376) (by decide) X lc_X12_316 dX12_operand_233 ?_
    refine r_cvi (rest := []) [.long (mL 7168376)] X hw (fun ra σa h => c_X12_isWord l D cy ad bs F 7168376 σ752 ra σa  h) sh_86 rfl (by decide) rfl km_X12_isWord kv_X12_isWord lm_X12_334 dX12_operand_236 hl.1 rfl rfl (Nat.le_of_ble_eq_true rfl) ⟨by decide, by decide⟩ ⟨Nat.zero_le _, Nat.zero_le _⟩ hf (fun r753 σ754 _ hf H locs hw => ?_)
    refine r_if_eq (tgt := 247) X dX12_operand_239 (by decide) hf (fun hc hf => ?_) (fun hc hf => ?_)
    · refine lv_bipush (v := mI 44) hx hb dX12_operand_247 (by decide) ?_
      exact w_X12_operand_b249 X hw (lv_sub hl [0] rfl) hf
    · refine lv_bipush (v := mI 37) hx hb dX12_operand_242 (by decide) ?_
      refine lv_goto (tgt := 249) hx hb dX12_operand_244 (by decide) ?_
      exact w_X12_operand_b249 X hw (lv_sub hl [0] rfl) hf
  · refine lv_bipush (v := mI 36) hx hb dX12_operand_227 (by decide) ?_
    refine lv_goto (tgt := 249) hx hb dX12_operand_229 (by decide) ?_
    exact w_X12_operand_b249 X hw (lv_sub hl [0] rfl) hf
def g_X12_operand_b455 (F : Nat)  (x3 : Int) (σ : mMem) : mRs := if mw (σ 86 8) ≤ 0 then (mob (g_X12_add F x3 (σ 86 6) σ) (fun r1265 σ1266 => mob (g_X12_ahead F σ1266) (fun r1267 σ1268 => if mw 1 = 0 ∨ mw 1 = 1 then some (1, σ1268) else none))) else (if mw 1 = 0 ∨ mw 1 = 1 then some (1, σ) else none)
set_option maxRecDepth 100000 in
set_option maxHeartbeats 4000000 in
theorem w_X12_operand_b455 {p : Program} {l : Launch} {e : Env} {s : State} {m : MethodId} {args : Array Value} {below : List Frame} {meth : Method} {c : Code} {D : va_G} {cy : Nat → ClassId} {ad : Nat → Nat} {bs : Nat} {F : Nat}  (X : mCx p m c cX12_operand 4 s args RX12 meth D cy (some .boolean))  {r : Int} {σ' : mMem}   {x3 : Int} {σ : mMem} {H : Heap} {locs : List Loc} {ls : Array Slot} (hw : mWd D cy ad bs true mN σ s.heap H locs) (hl : lv_has ls 4 [(0, .ref (ad 86)), (3, .int (mI x3))]) (hf : g_X12_operand_b455 F x3 σ = some (r, σ')) : mGi p l e 4 s m args below meth c D cy ad bs r σ' H locs (F0 m 455 ls []) := by
  obtain ⟨⟨hx, hb, -, -, -⟩, -⟩ := id X
  unfold g_X12_operand_b455 at hf
  refine lv_aload_n hx hb dX12_operand_455 rfl (lv_at hl 0 rfl) ?_
  refine r_geti X hw sh_86 fd_12_8 rfl lf_X12_36 dX12_operand_456 ?_
  refine r_if_le (tgt := 464) X dX12_operand_459 (by decide) hf (fun hc hf => ?_) (fun hc hf => ?_)
  · refine lv_aload_n hx hb dX12_operand_464 rfl (lv_at hl 0 rfl) ?_
    refine lv_iload_n hx hb dX12_operand_465 rfl (lv_at hl 1 rfl) ?_
    refine lv_aload_n hx hb dX12_operand_466 rfl (lv_at hl 0 rfl) ?_
    refine r_geti X hw sh_86 fd_12_6 rfl lf_X12_29 dX12_operand_467 ?_
    refine r_cvv (rest := []) [.int (mI x3), .int (mI (σ 86 6))] X hw (fun ra σa h => c_X12_add l D cy ad bs F x3 (σ 86 6) σ ra σa  h) sh_86 rfl (by decide) rfl km_X12_add kv_X12_add lm_X12_325 dX12_operand_470 hl.1 rfl rfl (Nat.le_of_ble_eq_true rfl) ⟨by decide, by decide⟩ ⟨Nat.zero_le _, Nat.zero_le _⟩ hf (fun r1265 σ1266 _ hf H locs hw => ?_)
    refine lv_aload_n hx hb dX12_operand_473 rfl (lv_at hl 0 rfl) ?_
    refine r_cvv (rest := []) [] X hw (fun ra σa h => c_X12_ahead l D cy ad bs F σ1266 ra σa  h) sh_86 rfl (by decide) rfl km_X12_ahead kv_X12_ahead lm_X12_259 dX12_operand_474 hl.1 rfl rfl (Nat.le_of_ble_eq_true rfl) ⟨by decide, by decide⟩ ⟨Nat.zero_le _, Nat.zero_le _⟩ hf (fun r1267 σ1268 _ hf H locs hw => ?_)
    refine lv_iconst (v := mI 1) hx hb dX12_operand_477 rfl ?_
    exact r_zret X hw dX12_operand_478 hf
  · refine lv_iconst (v := mI 1) hx hb dX12_operand_462 rfl ?_
    exact r_zret X hw dX12_operand_463 hf
def g_X12_operand_b441 (F : Nat)  (x3 : Int) (σ : mMem) : mRs := if ¬ mw x3 = mw (-1) then (g_X12_operand_b455 F x3 σ) else (mob (g_X12_blame F 1 (σ 86 4) σ) (fun r1063 σ1064 => g_X12_operand_b455 F x3 σ1064))
set_option maxRecDepth 100000 in
set_option maxHeartbeats 4000000 in
theorem w_X12_operand_b441 {p : Program} {l : Launch} {e : Env} {s : State} {m : MethodId} {args : Array Value} {below : List Frame} {meth : Method} {c : Code} {D : va_G} {cy : Nat → ClassId} {ad : Nat → Nat} {bs : Nat} {F : Nat}  (X : mCx p m c cX12_operand 4 s args RX12 meth D cy (some .boolean))  {r : Int} {σ' : mMem}   {x3 : Int} {σ : mMem} {H : Heap} {locs : List Loc} {ls : Array Slot} (hw : mWd D cy ad bs true mN σ s.heap H locs) (hl : lv_has ls 4 [(0, .ref (ad 86)), (3, .int (mI x3))]) (hf : g_X12_operand_b441 F x3 σ = some (r, σ')) : mGi p l e 4 s m args below meth c D cy ad bs r σ' H locs (F0 m 441 ls []) := by
  obtain ⟨⟨hx, hb, -, -, -⟩, -⟩ := id X
  unfold g_X12_operand_b441 at hf
  refine lv_iload_n hx hb dX12_operand_441 rfl (lv_at hl 1 rfl) ?_
  refine lv_iconst (v := mI (-1)) hx hb dX12_operand_442 rfl ?_
  refine r_icmp_ne (tgt := 455) X dX12_operand_443 (by decide) hf (fun hc hf => ?_) (fun hc hf => ?_)
  · exact w_X12_operand_b455 X hw (lv_sub hl [0, 1] rfl) hf
  · refine lv_aload_n hx hb dX12_operand_446 rfl (lv_at hl 0 rfl) ?_
    refine lv_iconst (v := mI 1) hx hb dX12_operand_447 rfl ?_
    refine lv_aload_n hx hb dX12_operand_448 rfl (lv_at hl 0 rfl) ?_
    refine r_geti X hw sh_86 fd_12_4 rfl lf_X12_23 dX12_operand_449 ?_
    refine r_cvv (rest := []) [.int (mI 1), .int (mI (σ 86 4))] X hw (fun ra σa h => c_X12_blame l D cy ad bs F 1 (σ 86 4) σ ra σa  h) sh_86 rfl (by decide) rfl km_X12_blame kv_X12_blame lm_X12_242 dX12_operand_452 hl.1 rfl rfl (Nat.le_of_ble_eq_true rfl) ⟨by decide, by decide⟩ ⟨Nat.zero_le _, Nat.zero_le _⟩ hf (fun r1063 σ1064 _ hf H locs hw => ?_)
    exact w_X12_operand_b455 X hw (lv_sub hl [0, 1] rfl) hf
def g_X12_operand_b426 (F : Nat)  (t0 : Int) (σ : mMem) : mRs := if mw t0 ≤ mw 5 then (g_X12_operand_b441 F t0 σ) else (if ¬ mw (σ 86 31) = 0 then (g_X12_operand_b441 F t0 σ) else (g_X12_operand_b441 F (-1) σ))
set_option maxRecDepth 100000 in
set_option maxHeartbeats 4000000 in
theorem w_X12_operand_b426 {p : Program} {l : Launch} {e : Env} {s : State} {m : MethodId} {args : Array Value} {below : List Frame} {meth : Method} {c : Code} {D : va_G} {cy : Nat → ClassId} {ad : Nat → Nat} {bs : Nat} {F : Nat}  (X : mCx p m c cX12_operand 4 s args RX12 meth D cy (some .boolean))  {r : Int} {σ' : mMem}   {t0 : Int} {σ : mMem} {H : Heap} {locs : List Loc} {ls : Array Slot} (hw : mWd D cy ad bs true mN σ s.heap H locs) (hl : lv_has ls 4 [(0, .ref (ad 86))]) (hf : g_X12_operand_b426 F t0 σ = some (r, σ')) : mGi p l e 4 s m args below meth c D cy ad bs r σ' H locs (F0 m 426 ls [.int (mI t0)]) := by
  obtain ⟨⟨hx, hb, -, -, -⟩, -⟩ := id X
  unfold g_X12_operand_b426 at hf
  refine lv_istore_n (lv' := [(3, .int (mI t0)), (0, .ref (ad 86))]) hx hb dX12_operand_426 rfl hl (by decide) rfl (fun ls hl => ?_)
  refine lv_iload_n hx hb dX12_operand_427 rfl (lv_at hl 0 rfl) ?_
  refine lv_iconst (v := mI 5) hx hb dX12_operand_428 rfl ?_
  refine r_icmp_le (tgt := 441) X dX12_operand_429 (by decide) hf (fun hc hf => ?_) (fun hc hf => ?_)
  · exact w_X12_operand_b441 X hw (lv_sub hl [1, 0] rfl) hf
  · refine lv_aload_n hx hb dX12_operand_432 rfl (lv_at hl 1 rfl) ?_
    refine r_geti X hw sh_86 fd_12_31 rfl lf_X12_106 dX12_operand_433 ?_
    refine r_if_ne (tgt := 441) X dX12_operand_436 (by decide) hf (fun hc hf => ?_) (fun hc hf => ?_)
    · exact w_X12_operand_b441 X hw (lv_sub hl [1, 0] rfl) hf
    · refine lv_iconst (v := mI (-1)) hx hb dX12_operand_439 rfl ?_
      refine lv_istore_n (lv' := [(3, .int (mI (-1))), (0, .ref (ad 86))]) hx hb dX12_operand_440 rfl hl (by decide) rfl (fun ls hl => ?_)
      exact w_X12_operand_b441 X hw (lv_sub hl [1, 0] rfl) hf
def g_X12_operand_b171 (F : Nat)  (σ : mMem) : mRs := mob (g_X12_isSign F 40 σ) (fun r627 σ628 => if mw r627 = 0 then (mob (g_X12_isWord F 7170414 σ628) (fun r629 σ630 => if ¬ mw r629 = 0 then (g_X12_operand_b217 F σ630) else (mob (g_X12_isWord F 7168376 σ630) (fun r631 σ632 => if ¬ mw r631 = 0 then (g_X12_operand_b217 F σ632) else (mob (g_X12_isWord F 26982 σ632) (fun r633 σ634 => if mw r633 = 0 then (if ¬ mw (σ634 86 3) = mw 2 then (mob (g_X12_isWord F 1818584692 σ634) (fun r635 σ636 => if mw r635 = 0 then (mob (g_X12_isWord F 491394656372 σ636) (fun r637 σ638 => if mw r637 = 0 then (mob (g_X12_isWord F 7170404 σ638) (fun r639 σ640 => if mw r639 = 0 then (mob (g_X12_isWord F 1819243380 σ640) (fun r641 σ642 => if mw r641 = 0 then (mob (g_X12_isWord F 1937007984 σ642) (fun r643 σ644 => if mw r643 = 0 then (mob (g_X12_isWord F 128047779833188 σ644) (fun r645 σ646 => if mw r645 = 0 then (mob (g_X12_isWord F 482906432882 σ646) (fun r647 σ648 => if mw r647 = 0 then (g_X12_operand_b426 F (-1) σ648) else (g_X12_operand_b426 F 7 σ648))) else (g_X12_operand_b426 F 6 σ646))) else (g_X12_operand_b426 F 5 σ644))) else (g_X12_operand_b426 F 4 σ642))) else (g_X12_operand_b426 F 3 σ640))) else (g_X12_operand_b426 F 2 σ638))) else (g_X12_operand_b426 F 1 σ636))) else (g_X12_operand_b426 F 0 σ634)) else (g_X12_operand_b217 F σ634))))))) else (mob (g_X12_opens F 2 σ628) (fun r649 σ650 => if mw 0 = 0 ∨ mw 0 = 1 then some (0, σ650) else none)))
set_option maxRecDepth 100000 in
set_option maxHeartbeats 4000000 in
theorem w_X12_operand_b171 {p : Program} {l : Launch} {e : Env} {s : State} {m : MethodId} {args : Array Value} {below : List Frame} {meth : Method} {c : Code} {D : va_G} {cy : Nat → ClassId} {ad : Nat → Nat} {bs : Nat} {F : Nat}  (X : mCx p m c cX12_operand 4 s args RX12 meth D cy (some .boolean))  {r : Int} {σ' : mMem}    {σ : mMem} {H : Heap} {locs : List Loc} {ls : Array Slot} (hw : mWd D cy ad bs true mN σ s.heap H locs) (hl : lv_has ls 4 [(0, .ref (ad 86))]) (hf : g_X12_operand_b171 F  σ = some (r, σ')) : mGi p l e 4 s m args below meth c D cy ad bs r σ' H locs (F0 m 171 ls []) := by
  obtain ⟨⟨hx, hb, -, -, -⟩, -⟩ := id X
  unfold g_X12_operand_b171 at hf
  refine lv_aload_n hx hb dX12_operand_171 rfl (lv_at hl 0 rfl) ?_
  refine lv_bipush (v := mI 40) hx hb dX12_operand_172 (by decide) ?_
  refine r_cvi (rest := []) [.int (mI 40)] X hw (fun ra σa h => c_X12_isSign l D cy ad bs F 40 σ ra σa  h) sh_86 rfl (by decide) rfl km_X12_isSign kv_X12_isSign lm_X12_256 dX12_operand_174 hl.1 rfl rfl (Nat.le_of_ble_eq_true rfl) ⟨by decide, by decide⟩ ⟨Nat.zero_le _, Nat.zero_le _⟩ hf (fun r627 σ628 _ hf H locs hw => ?_)
  refine r_if_eq (tgt := 187) X dX12_operand_177 (by decide) hf (fun hc hf => ?_) (fun hc hf => ?_)
  · refine lv_aload_n hx hb dX12_operand_187 rfl (lv_at hl 0 rfl) ?_
    refine r_ldc2 (z := 7170414) (by decide) X lc_X12_314 dX12_operand_188 ?_
    refine r_cvi (rest := []) [.long (mL 7170414)] X hw (fun ra σa h => c_X12_isWord l D cy ad bs F 7170414 σ628 ra σa  h) sh_86 rfl (by decide) rfl km_X12_isWord kv_X12_isWord lm_X12_334 dX12_operand_191 hl.1 rfl rfl (Nat.le_of_ble_eq_true rfl) ⟨by decide, by decide⟩ ⟨Nat.zero_le _, Nat.zero_le _⟩ hf (fun r629 σ630 _ hf H locs hw => ?_)
    refine r_if_ne (tgt := 217) X dX12_operand_194 (by decide) hf (fun hc hf => ?_) (fun hc hf => ?_)
    · exact w_X12_operand_b217 X hw (lv_sub hl [0] rfl) hf
    · refine lv_aload_n hx hb dX12_operand_197 rfl (lv_at hl 0 rfl) ?_
      refine r_ldc2 (z := 7168376) (by decide) X lc_X12_316 dX12_operand_198 ?_
      refine r_cvi (rest := []) [.long (mL 7168376)] X hw (fun ra σa h => c_X12_isWord l D cy ad bs F 7168376 σ630 ra σa  h) sh_86 rfl (by decide) rfl km_X12_isWord kv_X12_isWord lm_X12_334 dX12_operand_201 hl.1 rfl rfl (Nat.le_of_ble_eq_true rfl) ⟨by decide, by decide⟩ ⟨Nat.zero_le _, Nat.zero_le _⟩ hf (fun r631 σ632 _ hf H locs hw => ?_)
      refine r_if_ne (tgt := 217) X dX12_operand_204 (by decide) hf (fun hc hf => ?_) (fun hc hf => ?_)
      · exact w_X12_operand_b217 X hw (lv_sub hl [0] rfl) hf
      · refine lv_aload_n hx hb dX12_operand_207 rfl (lv_at hl 0 rfl) ?_
        refine r_ldc2 (z := 26982) (by decide) X lc_X12_304 dX12_operand_208 ?_
        refine r_cvi (rest := []) [.long (mL 26982)] X hw (fun ra σa h => c_X12_isWord l D cy ad bs F 26982 σ632 ra σa  h) sh_86 rfl (by decide) rfl km_X12_isWord kv_X12_isWord lm_X12_334 dX12_operand_211 hl.1 rfl rfl (Nat.le_of_ble_eq_true rfl) ⟨by decide, by decide⟩ ⟨Nat.zero_le _, Nat.zero_le _⟩ hf (fun r633 σ634 _ hf H locs hw => ?_)
        refine r_if_eq (tgt := 313) X dX12_operand_214 (by decide) hf (fun hc hf => ?_) (fun hc hf => ?_)
        · refine lv_aload_n hx hb dX12_operand_313 rfl (lv_at hl 0 rfl) ?_
          refine r_geti X hw sh_86 fd_12_3 rfl lf_X12_20 dX12_operand_314 ?_
          refine lv_iconst (v := mI 2) hx hb dX12_operand_317 rfl ?_
          refine r_icmp_ne (tgt := 325) X dX12_operand_318 (by decide) hf (fun hc hf => ?_) (fun hc hf => ?_)
          · refine lv_aload_n hx hb dX12_operand_325 rfl (lv_at hl 0 rfl) ?_
            refine r_ldc2 (z := 1818584692) (by decide) X lc_X12_292 dX12_operand_326 ?_
            refine r_cvi (rest := []) [.long (mL 1818584692)] X hw (fun ra σa h => c_X12_isWord l D cy ad bs F 1818584692 σ634 ra σa  h) sh_86 rfl (by decide) rfl km_X12_isWord kv_X12_isWord lm_X12_334 dX12_operand_329 hl.1 rfl rfl (Nat.le_of_ble_eq_true rfl) ⟨by decide, by decide⟩ ⟨Nat.zero_le _, Nat.zero_le _⟩ hf (fun r635 σ636 _ hf H locs hw => ?_)
            refine r_if_eq (tgt := 339) X dX12_operand_332 (by decide) hf (fun hc hf => ?_) (fun hc hf => ?_)
            · refine lv_aload_n hx hb dX12_operand_339 rfl (lv_at hl 0 rfl) ?_
              refine r_ldc2 (z := 491394656372) (by decide) X lc_X12_294 dX12_operand_340 ?_
              refine r_cvi (rest := []) [.long (mL 491394656372)] X hw (fun ra σa h => c_X12_isWord l D cy ad bs F 491394656372 σ636 ra σa  h) sh_86 rfl (by decide) rfl km_X12_isWord kv_X12_isWord lm_X12_334 dX12_operand_343 hl.1 rfl rfl (Nat.le_of_ble_eq_true rfl) ⟨by decide, by decide⟩ ⟨Nat.zero_le _, Nat.zero_le _⟩ hf (fun r637 σ638 _ hf H locs hw => ?_)
              refine r_if_eq (tgt := 353) X dX12_operand_346 (by decide) hf (fun hc hf => ?_) (fun hc hf => ?_)
              · refine lv_aload_n hx hb dX12_operand_353 rfl (lv_at hl 0 rfl) ?_
                refine r_ldc2 (z := 7170404) (by decide) X lc_X12_296 dX12_operand_354 ?_
                refine r_cvi (rest := []) [.long (mL 7170404)] X hw (fun ra σa h => c_X12_isWord l D cy ad bs F 7170404 σ638 ra σa  h) sh_86 rfl (by decide) rfl km_X12_isWord kv_X12_isWord lm_X12_334 dX12_operand_357 hl.1 rfl rfl (Nat.le_of_ble_eq_true rfl) ⟨by decide, by decide⟩ ⟨Nat.zero_le _, Nat.zero_le _⟩ hf (fun r639 σ640 _ hf H locs hw => ?_)
                refine r_if_eq (tgt := 367) X dX12_operand_360 (by decide) hf (fun hc hf => ?_) (fun hc hf => ?_)
                · refine lv_aload_n hx hb dX12_operand_367 rfl (lv_at hl 0 rfl) ?_
                  refine r_ldc2 (z := 1819243380) (by decide) X lc_X12_298 dX12_operand_368 ?_
                  refine r_cvi (rest := []) [.long (mL 1819243380)] X hw (fun ra σa h => c_X12_isWord l D cy ad bs F 1819243380 σ640 ra σa  h) sh_86 rfl (by decide) rfl km_X12_isWord kv_X12_isWord lm_X12_334 dX12_operand_371 hl.1 rfl rfl (Nat.le_of_ble_eq_true rfl) ⟨by decide, by decide⟩ ⟨Nat.zero_le _, Nat.zero_le _⟩ hf (fun r641 σ642 _ hf H locs hw => ?_)
                  refine r_if_eq (tgt := 381) X dX12_operand_374 (by decide) hf (fun hc hf => ?_) (fun hc hf => ?_)
                  · refine lv_aload_n hx hb dX12_operand_381 rfl (lv_at hl 0 rfl) ?_
                    refine r_ldc2 (z := 1937007984) (by decide) X lc_X12_300 dX12_operand_382 ?_
                    refine r_cvi (rest := []) [.long (mL 1937007984)] X hw (fun ra σa h => c_X12_isWord l D cy ad bs F 1937007984 σ642 ra σa  h) sh_86 rfl (by decide) rfl km_X12_isWord kv_X12_isWord lm_X12_334 dX12_operand_385 hl.1 rfl rfl (Nat.le_of_ble_eq_true rfl) ⟨by decide, by decide⟩ ⟨Nat.zero_le _, Nat.zero_le _⟩ hf (fun r643 σ644 _ hf H locs hw => ?_)
                    refine r_if_eq (tgt := 395) X dX12_operand_388 (by decide) hf (fun hc hf => ?_) (fun hc hf => ?_)
                    · refine lv_aload_n hx hb dX12_operand_395 rfl (lv_at hl 0 rfl) ?_
                      refine r_ldc2 (z := 128047779833188) (by decide) X lc_X12_302 dX12_operand_396 ?_
                      refine r_cvi (rest := []) [.long (mL 128047779833188)] X hw (fun ra σa h => c_X12_isWord l D cy ad bs F 128047779833188 σ644 ra σa  h) sh_86 rfl (by decide) rfl km_X12_isWord kv_X12_isWord lm_X12_334 dX12_operand_399 hl.1 rfl rfl (Nat.le_of_ble_eq_true rfl) ⟨by decide, by decide⟩ ⟨Nat.zero_le _, Nat.zero_le _⟩ hf (fun r645 σ646 _ hf H locs hw => ?_)
                      refine r_if_eq (tgt := 410) X dX12_operand_402 (by decide) hf (fun hc hf => ?_) (fun hc hf => ?_)
                      · refine lv_aload_n hx hb dX12_operand_410 rfl (lv_at hl 0 rfl) ?_
                        refine r_ldc2 (z := 482906432882) (by decide) X lc_X12_286 dX12_operand_411 ?_
                        refine r_cvi (rest := []) [.long (mL 482906432882)] X hw (fun ra σa h => c_X12_isWord l D cy ad bs F 482906432882 σ646 ra σa  h) sh_86 rfl (by decide) rfl km_X12_isWord kv_X12_isWord lm_X12_334 dX12_operand_414 hl.1 rfl rfl (Nat.le_of_ble_eq_true rfl) ⟨by decide, by decide⟩ ⟨Nat.zero_le _, Nat.zero_le _⟩ hf (fun r647 σ648 _ hf H locs hw => ?_)
                        refine r_if_eq (tgt := 425) X dX12_operand_417 (by decide) hf (fun hc hf => ?_) (fun hc hf => ?_)
                        · refine lv_iconst (v := mI (-1)) hx hb dX12_operand_425 rfl ?_
                          exact w_X12_operand_b426 X hw (lv_sub hl [0] rfl) hf
                        · refine lv_bipush (v := mI 7) hx hb dX12_operand_420 (by decide) ?_
                          refine lv_goto (tgt := 426) hx hb dX12_operand_422 (by decide) ?_
                          exact w_X12_operand_b426 X hw (lv_sub hl [0] rfl) hf
                      · refine lv_bipush (v := mI 6) hx hb dX12_operand_405 (by decide) ?_
                        refine lv_goto (tgt := 426) hx hb dX12_operand_407 (by decide) ?_
                        exact w_X12_operand_b426 X hw (lv_sub hl [0] rfl) hf
                    · refine lv_iconst (v := mI 5) hx hb dX12_operand_391 rfl ?_
                      refine lv_goto (tgt := 426) hx hb dX12_operand_392 (by decide) ?_
                      exact w_X12_operand_b426 X hw (lv_sub hl [0] rfl) hf
                  · refine lv_iconst (v := mI 4) hx hb dX12_operand_377 rfl ?_
                    refine lv_goto (tgt := 426) hx hb dX12_operand_378 (by decide) ?_
                    exact w_X12_operand_b426 X hw (lv_sub hl [0] rfl) hf
                · refine lv_iconst (v := mI 3) hx hb dX12_operand_363 rfl ?_
                  refine lv_goto (tgt := 426) hx hb dX12_operand_364 (by decide) ?_
                  exact w_X12_operand_b426 X hw (lv_sub hl [0] rfl) hf
              · refine lv_iconst (v := mI 2) hx hb dX12_operand_349 rfl ?_
                refine lv_goto (tgt := 426) hx hb dX12_operand_350 (by decide) ?_
                exact w_X12_operand_b426 X hw (lv_sub hl [0] rfl) hf
            · refine lv_iconst (v := mI 1) hx hb dX12_operand_335 rfl ?_
              refine lv_goto (tgt := 426) hx hb dX12_operand_336 (by decide) ?_
              exact w_X12_operand_b426 X hw (lv_sub hl [0] rfl) hf
          · refine lv_iconst (v := mI 0) hx hb dX12_operand_321 rfl ?_
            refine lv_goto (tgt := 426) hx hb dX12_operand_322 (by decide) ?_
            exact w_X12_operand_b426 X hw (lv_sub hl [0] rfl) hf
        · exact w_X12_operand_b217 X hw (lv_sub hl [0] rfl) hf
  · refine lv_aload_n hx hb dX12_operand_180 rfl (lv_at hl 0 rfl) ?_
    refine lv_iconst (v := mI 2) hx hb dX12_operand_181 rfl ?_
    refine r_cvv (rest := []) [.int (mI 2)] X hw (fun ra σa h => c_X12_opens l D cy ad bs F 2 σ628 ra σa  h) sh_86 rfl (by decide) rfl km_X12_opens kv_X12_opens lm_X12_341 dX12_operand_182 hl.1 rfl rfl (Nat.le_of_ble_eq_true rfl) ⟨by decide, by decide⟩ ⟨Nat.zero_le _, Nat.zero_le _⟩ hf (fun r649 σ650 _ hf H locs hw => ?_)
    refine lv_iconst (v := mI 0) hx hb dX12_operand_185 rfl ?_
    exact r_zret X hw dX12_operand_186 hf
def g_X12_operand_b137 (F : Nat)  (x1 x2 : Int) (σ : mMem) : mRs := if mw x2 = 0 then (g_X12_operand_b171 F σ) else (mob (g_X12_isWord F 6384748 σ) (fun r520 σ521 => if mw r520 = 0 then (g_X12_operand_b171 F σ521) else (mob (g_X12_add F 30 0 σ521) (fun r522 σ523 => if 0 ≤ mw x1 ∧ mw x1 < (20 : Int) then mlm (mup σ523 104 (mw x1).toNat 2) (fun σ524 => mob (g_X12_ahead F σ524) (fun r525 σ526 => if mw 1 = 0 ∨ mw 1 = 1 then some (1, σ526) else none)) else none))))
set_option maxRecDepth 100000 in
set_option maxHeartbeats 4000000 in
theorem w_X12_operand_b137 {p : Program} {l : Launch} {e : Env} {s : State} {m : MethodId} {args : Array Value} {below : List Frame} {meth : Method} {c : Code} {D : va_G} {cy : Nat → ClassId} {ad : Nat → Nat} {bs : Nat} {F : Nat}  (X : mCx p m c cX12_operand 4 s args RX12 meth D cy (some .boolean))  {r : Int} {σ' : mMem}   {x1 x2 : Int} {σ : mMem} {H : Heap} {locs : List Loc} {ls : Array Slot} (hw : mWd D cy ad bs true mN σ s.heap H locs) (hl : lv_has ls 4 [(0, .ref (ad 86)), (1, .int (mI x1)), (2, .int (mI x2))]) (hf : g_X12_operand_b137 F x1 x2 σ = some (r, σ')) : mGi p l e 4 s m args below meth c D cy ad bs r σ' H locs (F0 m 137 ls []) := by
  obtain ⟨⟨hx, hb, -, -, -⟩, -⟩ := id X
  unfold g_X12_operand_b137 at hf
  refine lv_iload_n hx hb dX12_operand_137 rfl (lv_at hl 2 rfl) ?_
  refine r_if_eq (tgt := 171) X dX12_operand_138 (by decide) hf (fun hc hf => ?_) (fun hc hf => ?_)
  · exact w_X12_operand_b171 X hw (lv_sub hl [0] rfl) hf
  · refine lv_aload_n hx hb dX12_operand_141 rfl (lv_at hl 0 rfl) ?_
    refine r_ldc2 (z := 6384748) (by decide) X lc_X12_312 dX12_operand_142 ?_
    refine r_cvi (rest := []) [.long (mL 6384748)] X hw (fun ra σa h => c_X12_isWord l D cy ad bs F 6384748 σ ra σa  h) sh_86 rfl (by decide) rfl km_X12_isWord kv_X12_isWord lm_X12_334 dX12_operand_145 hl.1 rfl rfl (Nat.le_of_ble_eq_true rfl) ⟨by decide, by decide⟩ ⟨Nat.zero_le _, Nat.zero_le _⟩ hf (fun r520 σ521 _ hf H locs hw => ?_)
    refine r_if_eq (tgt := 171) X dX12_operand_148 (by decide) hf (fun hc hf => ?_) (fun hc hf => ?_)
    · exact w_X12_operand_b171 X hw (lv_sub hl [0] rfl) hf
    · refine lv_aload_n hx hb dX12_operand_151 rfl (lv_at hl 0 rfl) ?_
      refine lv_bipush (v := mI 30) hx hb dX12_operand_152 (by decide) ?_
      refine lv_iconst (v := mI 0) hx hb dX12_operand_154 rfl ?_
      refine r_cvv (rest := []) [.int (mI 30), .int (mI 0)] X hw (fun ra σa h => c_X12_add l D cy ad bs F 30 0 σ521 ra σa  h) sh_86 rfl (by decide) rfl km_X12_add kv_X12_add lm_X12_325 dX12_operand_155 hl.1 rfl rfl (Nat.le_of_ble_eq_true rfl) ⟨by decide, by decide⟩ ⟨Nat.zero_le _, Nat.zero_le _⟩ hf (fun r522 σ523 _ hf H locs hw => ?_)
      refine lv_aload_n hx hb dX12_operand_158 rfl (lv_at hl 0 rfl) ?_
      refine r_getr 104 X hw sh_86 fd_12_33 rfl rfl lf_X12_113 dX12_operand_159 ?_
      refine lv_iload_n hx hb dX12_operand_162 rfl (lv_at hl 1 rfl) ?_
      refine lv_iconst (v := mI 2) hx hb dX12_operand_163 rfl ?_
      refine r_iast (20 : Int) rfl X hw sh_104 dX12_operand_164 hf (fun hf H locs hw => ?_)
      refine r_mem hf hw (fun σ524 hw hf => ?_)
      refine lv_aload_n hx hb dX12_operand_165 rfl (lv_at hl 0 rfl) ?_
      refine r_cvv (rest := []) [] X hw (fun ra σa h => c_X12_ahead l D cy ad bs F σ524 ra σa  h) sh_86 rfl (by decide) rfl km_X12_ahead kv_X12_ahead lm_X12_259 dX12_operand_166 hl.1 rfl rfl (Nat.le_of_ble_eq_true rfl) ⟨by decide, by decide⟩ ⟨Nat.zero_le _, Nat.zero_le _⟩ hf (fun r525 σ526 _ hf H locs hw => ?_)
      refine lv_iconst (v := mI 1) hx hb dX12_operand_169 rfl ?_
      exact r_zret X hw dX12_operand_170 hf
def g_X12_operand_b110 (F : Nat)  (x1 x2 : Int) (σ : mMem) : mRs := if 0 ≤ mw x1 ∧ mw x1 < (20 : Int) ∧ (mw 0 = 0 ∨ mw 0 = 1) then mlm (mup σ 105 (mw x1).toNat 0) (fun σ310 => if mw x2 = 0 then (g_X12_operand_b137 F x1 x2 σ310) else (mob (g_X12_isSign F 91 σ310) (fun r311 σ312 => if mw r311 = 0 then (g_X12_operand_b137 F x1 x2 σ312) else (mob (g_X12_opens F 5 σ312) (fun r313 σ314 => if mw 0 = 0 ∨ mw 0 = 1 then some (0, σ314) else none))))) else none
set_option maxRecDepth 100000 in
set_option maxHeartbeats 4000000 in
theorem w_X12_operand_b110 {p : Program} {l : Launch} {e : Env} {s : State} {m : MethodId} {args : Array Value} {below : List Frame} {meth : Method} {c : Code} {D : va_G} {cy : Nat → ClassId} {ad : Nat → Nat} {bs : Nat} {F : Nat}  (X : mCx p m c cX12_operand 4 s args RX12 meth D cy (some .boolean))  {r : Int} {σ' : mMem}   {x1 x2 : Int} {σ : mMem} {H : Heap} {locs : List Loc} {ls : Array Slot} (hw : mWd D cy ad bs true mN σ s.heap H locs) (hl : lv_has ls 4 [(0, .ref (ad 86)), (1, .int (mI x1)), (2, .int (mI x2))]) (hf : g_X12_operand_b110 F x1 x2 σ = some (r, σ')) : mGi p l e 4 s m args below meth c D cy ad bs r σ' H locs (F0 m 110 ls []) := by
  obtain ⟨⟨hx, hb, -, -, -⟩, -⟩ := id X
  unfold g_X12_operand_b110 at hf
  refine lv_aload_n hx hb dX12_operand_110 rfl (lv_at hl 0 rfl) ?_
  refine r_getr 105 X hw sh_86 fd_12_34 rfl rfl lf_X12_116 dX12_operand_111 ?_
  refine lv_iload_n hx hb dX12_operand_114 rfl (lv_at hl 1 rfl) ?_
  refine lv_iconst (v := mI 0) hx hb dX12_operand_115 rfl ?_
  refine r_zast (20 : Int) rfl X hw sh_105 dX12_operand_116 hf (fun hf H locs hw => ?_)
  refine r_mem hf hw (fun σ310 hw hf => ?_)
  refine lv_iload_n hx hb dX12_operand_117 rfl (lv_at hl 2 rfl) ?_
  refine r_if_eq (tgt := 137) X dX12_operand_118 (by decide) hf (fun hc hf => ?_) (fun hc hf => ?_)
  · exact w_X12_operand_b137 X hw (lv_sub hl [0, 1, 2] rfl) hf
  · refine lv_aload_n hx hb dX12_operand_121 rfl (lv_at hl 0 rfl) ?_
    refine lv_bipush (v := mI 91) hx hb dX12_operand_122 (by decide) ?_
    refine r_cvi (rest := []) [.int (mI 91)] X hw (fun ra σa h => c_X12_isSign l D cy ad bs F 91 σ310 ra σa  h) sh_86 rfl (by decide) rfl km_X12_isSign kv_X12_isSign lm_X12_256 dX12_operand_124 hl.1 rfl rfl (Nat.le_of_ble_eq_true rfl) ⟨by decide, by decide⟩ ⟨Nat.zero_le _, Nat.zero_le _⟩ hf (fun r311 σ312 _ hf H locs hw => ?_)
    refine r_if_eq (tgt := 137) X dX12_operand_127 (by decide) hf (fun hc hf => ?_) (fun hc hf => ?_)
    · exact w_X12_operand_b137 X hw (lv_sub hl [0, 1, 2] rfl) hf
    · refine lv_aload_n hx hb dX12_operand_130 rfl (lv_at hl 0 rfl) ?_
      refine lv_iconst (v := mI 5) hx hb dX12_operand_131 rfl ?_
      refine r_cvv (rest := []) [.int (mI 5)] X hw (fun ra σa h => c_X12_opens l D cy ad bs F 5 σ312 ra σa  h) sh_86 rfl (by decide) rfl km_X12_opens kv_X12_opens lm_X12_341 dX12_operand_132 hl.1 rfl rfl (Nat.le_of_ble_eq_true rfl) ⟨by decide, by decide⟩ ⟨Nat.zero_le _, Nat.zero_le _⟩ hf (fun r313 σ314 _ hf H locs hw => ?_)
      refine lv_iconst (v := mI 0) hx hb dX12_operand_135 rfl ?_
      exact r_zret X hw dX12_operand_136 hf
def g_X12_operand_b79 (F : Nat)  (σ : mMem) : mRs := if mw (σ 86 8) ≤ 0 then (mlm (mup σ 86 38 ((σ 86 38) + 1)) (fun σ415 => mob (g_X12_holdsBack F 43 σ415) (fun r416 σ417 => mob (g_X12_ahead F σ417) (fun r418 σ419 => if mw 0 = 0 ∨ mw 0 = 1 then some (0, σ419) else none)))) else (if mw 1 = 0 ∨ mw 1 = 1 then some (1, σ) else none)
set_option maxRecDepth 100000 in
set_option maxHeartbeats 4000000 in
theorem w_X12_operand_b79 {p : Program} {l : Launch} {e : Env} {s : State} {m : MethodId} {args : Array Value} {below : List Frame} {meth : Method} {c : Code} {D : va_G} {cy : Nat → ClassId} {ad : Nat → Nat} {bs : Nat} {F : Nat}  (X : mCx p m c cX12_operand 4 s args RX12 meth D cy (some .boolean))  {r : Int} {σ' : mMem}    {σ : mMem} {H : Heap} {locs : List Loc} {ls : Array Slot} (hw : mWd D cy ad bs true mN σ s.heap H locs) (hl : lv_has ls 4 [(0, .ref (ad 86))]) (hf : g_X12_operand_b79 F  σ = some (r, σ')) : mGi p l e 4 s m args below meth c D cy ad bs r σ' H locs (F0 m 79 ls []) := by
  obtain ⟨⟨hx, hb, -, -, -⟩, -⟩ := id X
  unfold g_X12_operand_b79 at hf
  refine lv_aload_n hx hb dX12_operand_79 rfl (lv_at hl 0 rfl) ?_
  refine r_geti X hw sh_86 fd_12_8 rfl lf_X12_36 dX12_operand_80 ?_
  refine r_if_le (tgt := 88) X dX12_operand_83 (by decide) hf (fun hc hf => ?_) (fun hc hf => ?_)
  · refine lv_aload_n hx hb dX12_operand_88 rfl (lv_at hl 0 rfl) ?_
    refine lv_dup hx hb dX12_operand_89 rfl ?_
    refine r_geti X hw sh_86 fd_12_38 rfl lf_X12_129 dX12_operand_90 ?_
    refine lv_iconst (v := mI 1) hx hb dX12_operand_93 rfl ?_
    refine r_iadd X dX12_operand_94 ?_
    refine r_puti X hw sh_86 fd_12_38 fp_12_38 rfl rfl lf_X12_129 dX12_operand_95 (fun H locs hw => ?_)
    refine r_mem hf hw (fun σ415 hw hf => ?_)
    refine lv_aload_n hx hb dX12_operand_98 rfl (lv_at hl 0 rfl) ?_
    refine lv_bipush (v := mI 43) hx hb dX12_operand_99 (by decide) ?_
    refine r_cvv (rest := []) [.int (mI 43)] X hw (fun ra σa h => c_X12_holdsBack l D cy ad bs F 43 σ415 ra σa  h) sh_86 rfl (by decide) rfl km_X12_holdsBack kv_X12_holdsBack lm_X12_338 dX12_operand_101 hl.1 rfl rfl (Nat.le_of_ble_eq_true rfl) ⟨by decide, by decide⟩ ⟨Nat.zero_le _, Nat.zero_le _⟩ hf (fun r416 σ417 _ hf H locs hw => ?_)
    refine lv_aload_n hx hb dX12_operand_104 rfl (lv_at hl 0 rfl) ?_
    refine r_cvv (rest := []) [] X hw (fun ra σa h => c_X12_ahead l D cy ad bs F σ417 ra σa  h) sh_86 rfl (by decide) rfl km_X12_ahead kv_X12_ahead lm_X12_259 dX12_operand_105 hl.1 rfl rfl (Nat.le_of_ble_eq_true rfl) ⟨by decide, by decide⟩ ⟨Nat.zero_le _, Nat.zero_le _⟩ hf (fun r418 σ419 _ hf H locs hw => ?_)
    refine lv_iconst (v := mI 0) hx hb dX12_operand_108 rfl ?_
    exact r_zret X hw dX12_operand_109 hf
  · refine lv_iconst (v := mI 1) hx hb dX12_operand_86 rfl ?_
    exact r_zret X hw dX12_operand_87 hf
def g_X12_operand_b46 (F : Nat)  (x1 t0 : Int) (σ : mMem) : mRs := if mw t0 = 0 then (g_X12_operand_b110 F x1 t0 σ) else (mob (g_X12_isWord F 7237492 σ) (fun r106 σ107 => if mw r106 = 0 then (g_X12_operand_b110 F x1 t0 σ107) else (if ¬ mw (σ107 86 38) = mw 7 then (g_X12_operand_b79 F σ107) else (mob (g_X12_blame F 5 (σ107 86 4) σ107) (fun r108 σ109 => g_X12_operand_b79 F σ109)))))
set_option maxRecDepth 100000 in
set_option maxHeartbeats 4000000 in
theorem w_X12_operand_b46 {p : Program} {l : Launch} {e : Env} {s : State} {m : MethodId} {args : Array Value} {below : List Frame} {meth : Method} {c : Code} {D : va_G} {cy : Nat → ClassId} {ad : Nat → Nat} {bs : Nat} {F : Nat}  (X : mCx p m c cX12_operand 4 s args RX12 meth D cy (some .boolean))  {r : Int} {σ' : mMem}   {x1 t0 : Int} {σ : mMem} {H : Heap} {locs : List Loc} {ls : Array Slot} (hw : mWd D cy ad bs true mN σ s.heap H locs) (hl : lv_has ls 4 [(0, .ref (ad 86)), (1, .int (mI x1))]) (hf : g_X12_operand_b46 F x1 t0 σ = some (r, σ')) : mGi p l e 4 s m args below meth c D cy ad bs r σ' H locs (F0 m 46 ls [.int (mI t0)]) := by
  obtain ⟨⟨hx, hb, -, -, -⟩, -⟩ := id X
  unfold g_X12_operand_b46 at hf
  refine lv_istore_n (lv' := [(2, .int (mI t0)), (0, .ref (ad 86)), (1, .int (mI x1))]) hx hb dX12_operand_46 rfl hl (by decide) rfl (fun ls hl => ?_)
  refine lv_iload_n hx hb dX12_operand_47 rfl (lv_at hl 0 rfl) ?_
  refine r_if_eq (tgt := 110) X dX12_operand_48 (by decide) hf (fun hc hf => ?_) (fun hc hf => ?_)
  · exact w_X12_operand_b110 X hw (lv_sub hl [1, 2, 0] rfl) hf
  · refine lv_aload_n hx hb dX12_operand_51 rfl (lv_at hl 1 rfl) ?_
    refine r_ldc2 (z := 7237492) (by decide) X lc_X12_310 dX12_operand_52 ?_
    refine r_cvi (rest := []) [.long (mL 7237492)] X hw (fun ra σa h => c_X12_isWord l D cy ad bs F 7237492 σ ra σa  h) sh_86 rfl (by decide) rfl km_X12_isWord kv_X12_isWord lm_X12_334 dX12_operand_55 hl.1 rfl rfl (Nat.le_of_ble_eq_true rfl) ⟨by decide, by decide⟩ ⟨Nat.zero_le _, Nat.zero_le _⟩ hf (fun r106 σ107 _ hf H locs hw => ?_)
    refine r_if_eq (tgt := 110) X dX12_operand_58 (by decide) hf (fun hc hf => ?_) (fun hc hf => ?_)
    · exact w_X12_operand_b110 X hw (lv_sub hl [1, 2, 0] rfl) hf
    · refine lv_aload_n hx hb dX12_operand_61 rfl (lv_at hl 1 rfl) ?_
      refine r_geti X hw sh_86 fd_12_38 rfl lf_X12_129 dX12_operand_62 ?_
      refine lv_bipush (v := mI 7) hx hb dX12_operand_65 (by decide) ?_
      refine r_icmp_ne (tgt := 79) X dX12_operand_67 (by decide) hf (fun hc hf => ?_) (fun hc hf => ?_)
      · exact w_X12_operand_b79 X hw (lv_sub hl [1] rfl) hf
      · refine lv_aload_n hx hb dX12_operand_70 rfl (lv_at hl 1 rfl) ?_
        refine lv_iconst (v := mI 5) hx hb dX12_operand_71 rfl ?_
        refine lv_aload_n hx hb dX12_operand_72 rfl (lv_at hl 1 rfl) ?_
        refine r_geti X hw sh_86 fd_12_4 rfl lf_X12_23 dX12_operand_73 ?_
        refine r_cvv (rest := []) [.int (mI 5), .int (mI (σ107 86 4))] X hw (fun ra σa h => c_X12_blame l D cy ad bs F 5 (σ107 86 4) σ107 ra σa  h) sh_86 rfl (by decide) rfl km_X12_blame kv_X12_blame lm_X12_242 dX12_operand_76 hl.1 rfl rfl (Nat.le_of_ble_eq_true rfl) ⟨by decide, by decide⟩ ⟨Nat.zero_le _, Nat.zero_le _⟩ hf (fun r108 σ109 _ hf H locs hw => ?_)
        exact w_X12_operand_b79 X hw (lv_sub hl [1] rfl) hf
def g_X12_operand_b45 (F : Nat)  (x1 : Int) (σ : mMem) : mRs := g_X12_operand_b46 F x1 0 σ
set_option maxRecDepth 100000 in
set_option maxHeartbeats 4000000 in
theorem w_X12_operand_b45 {p : Program} {l : Launch} {e : Env} {s : State} {m : MethodId} {args : Array Value} {below : List Frame} {meth : Method} {c : Code} {D : va_G} {cy : Nat → ClassId} {ad : Nat → Nat} {bs : Nat} {F : Nat}  (X : mCx p m c cX12_operand 4 s args RX12 meth D cy (some .boolean))  {r : Int} {σ' : mMem}   {x1 : Int} {σ : mMem} {H : Heap} {locs : List Loc} {ls : Array Slot} (hw : mWd D cy ad bs true mN σ s.heap H locs) (hl : lv_has ls 4 [(0, .ref (ad 86)), (1, .int (mI x1))]) (hf : g_X12_operand_b45 F x1 σ = some (r, σ')) : mGi p l e 4 s m args below meth c D cy ad bs r σ' H locs (F0 m 45 ls []) := by
  obtain ⟨⟨hx, hb, -, -, -⟩, -⟩ := id X
  unfold g_X12_operand_b45 at hf
  refine lv_iconst (v := mI 0) hx hb dX12_operand_45 rfl ?_
  exact w_X12_operand_b46 X hw (lv_sub hl [0, 1] rfl) hf
def g_X12_operand (F : Nat) (σ : mMem) : mRs := mob (g_X12_lex F σ) (fun r1 σ2 => if mw (σ2 86 8) ≤ 0 then (mlet ((σ2 86 37) - 1) (fun y3 => if 0 ≤ mw y3 ∧ mw y3 < (20 : Int) then mob (g_X12_isTest F (σ2 103 (mw y3).toNat) σ2) (fun r4 σ5 => if mw r4 = 0 then (g_X12_operand_b45 F y3 σ5) else (if 0 ≤ mw y3 ∧ mw y3 < (20 : Int) then if mw (σ5 105 (mw y3).toNat) = 0 then (g_X12_operand_b45 F y3 σ5) else (g_X12_operand_b46 F y3 1 σ5) else none)) else none)) else (if mw 1 = 0 ∨ mw 1 = 1 then some (1, σ2) else none))
set_option maxRecDepth 100000 in
set_option maxHeartbeats 4000000 in
theorem c_X12_operand (l : Launch) (D : va_G) (cy : Nat → ClassId) (ad : Nat → Nat) (bs : Nat) (F : Nat)   (σ : mMem) (r : Int) (σ' : mMem)  (hf : g_X12_operand F  σ = some (r, σ')) : mCi l D cy ad bs yX12_operand cX12_operand 4 (some .boolean) 4 [.ref (ad 86)] σ r σ' := by
  refine mCi.of (lv := [(0, .ref (ad 86))]) km_X12_operand.2.2.2.2.2 (Nat.le_of_ble_eq_true rfl) rfl (fun p e s m args below meth c H locs ls X hw hl => ?_)
  obtain ⟨⟨hx, hb, -, -, -⟩, -⟩ := id X
  unfold g_X12_operand at hf
  refine lv_aload_n hx hb dX12_operand_0 rfl (lv_at hl 0 rfl) ?_
  refine r_cvv (rest := []) [] X hw (fun ra σa h => c_X12_lex l D cy ad bs F σ ra σa  h) sh_86 rfl (by decide) rfl km_X12_lex kv_X12_lex lm_X12_253 dX12_operand_1 hl.1 rfl rfl (Nat.le_of_ble_eq_true rfl) ⟨by decide, by decide⟩ ⟨Nat.zero_le _, Nat.zero_le _⟩ hf (fun r1 σ2 _ hf H locs hw => ?_)
  refine lv_aload_n hx hb dX12_operand_4 rfl (lv_at hl 0 rfl) ?_
  refine r_geti X hw sh_86 fd_12_8 rfl lf_X12_36 dX12_operand_5 ?_
  refine r_if_le (tgt := 13) X dX12_operand_8 (by decide) hf (fun hc hf => ?_) (fun hc hf => ?_)
  · refine lv_aload_n hx hb dX12_operand_13 rfl (lv_at hl 0 rfl) ?_
    refine r_geti X hw sh_86 fd_12_37 rfl lf_X12_126 dX12_operand_14 ?_
    refine lv_iconst (v := mI 1) hx hb dX12_operand_17 rfl ?_
    refine r_isub X dX12_operand_18 ?_
    refine r_leti hf (fun y3 hf => ?_)
    refine lv_istore_n (lv' := [(1, .int (mI y3)), (0, .ref (ad 86))]) hx hb dX12_operand_19 rfl hl (by decide) rfl (fun ls hl => ?_)
    refine lv_aload_n hx hb dX12_operand_20 rfl (lv_at hl 1 rfl) ?_
    refine r_getr 103 X hw sh_86 fd_12_32 rfl rfl lf_X12_110 dX12_operand_21 ?_
    refine lv_iload_n hx hb dX12_operand_24 rfl (lv_at hl 0 rfl) ?_
    refine r_iald (20 : Int) rfl X hw sh_103 dX12_operand_25 hf (fun hf => ?_)
    refine r_csi (rest := []) [.int (mI (σ2 103 (mw y3).toNat))] X hw (fun ra σa h => c_X12_isTest l D cy ad bs F (σ2 103 (mw y3).toNat) σ2 ra σa  h) km_X12_isTest ks_X12_isTest lm_X12_331 dX12_operand_26 hl.1 rfl rfl (Nat.le_of_ble_eq_true rfl) ⟨by decide, by decide⟩ ⟨Nat.zero_le _, Nat.zero_le _⟩ hf (fun r4 σ5 _ hf H locs hw => ?_)
    refine r_if_eq (tgt := 45) X dX12_operand_29 (by decide) hf (fun hc hf => ?_) (fun hc hf => ?_)
    · exact w_X12_operand_b45 X hw (lv_sub hl [1, 0] rfl) hf
    · refine lv_aload_n hx hb dX12_operand_32 rfl (lv_at hl 1 rfl) ?_
      refine r_getr 105 X hw sh_86 fd_12_34 rfl rfl lf_X12_116 dX12_operand_33 ?_
      refine lv_iload_n hx hb dX12_operand_36 rfl (lv_at hl 0 rfl) ?_
      refine r_zald (20 : Int) rfl X hw sh_105 dX12_operand_37 hf (fun hf => ?_)
      refine r_if_eq (tgt := 45) X dX12_operand_38 (by decide) hf (fun hc hf => ?_) (fun hc hf => ?_)
      · exact w_X12_operand_b45 X hw (lv_sub hl [1, 0] rfl) hf
      · refine lv_iconst (v := mI 1) hx hb dX12_operand_41 rfl ?_
        refine lv_goto (tgt := 46) hx hb dX12_operand_42 (by decide) ?_
        exact w_X12_operand_b46 X hw (lv_sub hl [1, 0] rfl) hf
  · refine lv_iconst (v := mI 1) hx hb dX12_operand_11 rfl ?_
    exact r_zret X hw dX12_operand_12 hf
def g_X12_goesOn_b499 (F : Nat)  (x1 t0 t1 : Int) (σ : mMem) : mRs := if 0 ≤ mw t0 ∧ mw t0 < (20 : Int) then mlm (mup σ 103 (mw t0).toNat t1) (fun σ2091 => if 0 ≤ mw x1 ∧ mw x1 < (20 : Int) then mlm (mup σ2091 104 (mw x1).toNat 0) (fun σ2092 => mob (g_X12_ahead F σ2092) (fun r2093 σ2094 => if mw 0 = 0 ∨ mw 0 = 1 then mlm (mup σ2094 86 41 0) (fun σ2095 => if mw 1 = 0 ∨ mw 1 = 1 then some (1, σ2095) else none) else none)) else none) else none
set_option maxRecDepth 100000 in
set_option maxHeartbeats 4000000 in
theorem w_X12_goesOn_b499 {p : Program} {l : Launch} {e : Env} {s : State} {m : MethodId} {args : Array Value} {below : List Frame} {meth : Method} {c : Code} {D : va_G} {cy : Nat → ClassId} {ad : Nat → Nat} {bs : Nat} {F : Nat}  (X : mCx p m c cX12_goesOn 5 s args RX12 meth D cy (some .boolean))  {r : Int} {σ' : mMem}   {x1 t0 t1 : Int} {σ : mMem} {H : Heap} {locs : List Loc} {ls : Array Slot} (hw : mWd D cy ad bs true mN σ s.heap H locs) (hl : lv_has ls 5 [(0, .ref (ad 86)), (1, .int (mI x1))]) (hf : g_X12_goesOn_b499 F x1 t0 t1 σ = some (r, σ')) : mGi p l e 3 s m args below meth c D cy ad bs r σ' H locs (F0 m 499 ls [.int (mI t1), .int (mI t0), .ref (ad 103)]) := by
  obtain ⟨⟨hx, hb, -, -, -⟩, -⟩ := id X
  unfold g_X12_goesOn_b499 at hf
  refine r_iast (20 : Int) rfl X hw sh_103 dX12_goesOn_499 hf (fun hf H locs hw => ?_)
  refine r_mem hf hw (fun σ2091 hw hf => ?_)
  refine lv_aload_n hx hb dX12_goesOn_500 rfl (lv_at hl 0 rfl) ?_
  refine r_getr 104 X hw sh_86 fd_12_33 rfl rfl lf_X12_113 dX12_goesOn_501 ?_
  refine lv_iload_n hx hb dX12_goesOn_504 rfl (lv_at hl 1 rfl) ?_
  refine lv_iconst (v := mI 0) hx hb dX12_goesOn_505 rfl ?_
  refine r_iast (20 : Int) rfl X hw sh_104 dX12_goesOn_506 hf (fun hf H locs hw => ?_)
  refine r_mem hf hw (fun σ2092 hw hf => ?_)
  refine lv_aload_n hx hb dX12_goesOn_507 rfl (lv_at hl 0 rfl) ?_
  refine r_cvv (rest := []) [] X hw (fun ra σa h => c_X12_ahead l D cy ad bs F σ2092 ra σa  h) sh_86 rfl (by decide) rfl km_X12_ahead kv_X12_ahead lm_X12_259 dX12_goesOn_508 hl.1 rfl rfl (Nat.le_of_ble_eq_true rfl) ⟨by decide, by decide⟩ ⟨Nat.zero_le _, Nat.zero_le _⟩ hf (fun r2093 σ2094 _ hf H locs hw => ?_)
  refine lv_aload_n hx hb dX12_goesOn_511 rfl (lv_at hl 0 rfl) ?_
  refine lv_iconst (v := mI 0) hx hb dX12_goesOn_512 rfl ?_
  refine r_putz X hw sh_86 fd_12_41 fp_12_41 rfl rfl lf_X12_138 dX12_goesOn_513 hf (fun hf H locs hw => ?_)
  refine r_mem hf hw (fun σ2095 hw hf => ?_)
  refine lv_iconst (v := mI 1) hx hb dX12_goesOn_516 rfl ?_
  exact r_zret X hw dX12_goesOn_517 hf
def g_X12_goesOn_b470 (F : Nat)  (x1 x2 : Int) (σ : mMem) : mRs := if mw (σ 86 8) ≤ 0 then (mob (g_X12_joins F 1 σ) (fun r1776 σ1777 => if ¬ mw x2 = mw 3 then (g_X12_goesOn_b499 F x1 x1 3 σ1777) else (g_X12_goesOn_b499 F x1 x1 4 σ1777))) else (if mw 0 = 0 ∨ mw 0 = 1 then some (0, σ) else none)
set_option maxRecDepth 100000 in
set_option maxHeartbeats 4000000 in
theorem w_X12_goesOn_b470 {p : Program} {l : Launch} {e : Env} {s : State} {m : MethodId} {args : Array Value} {below : List Frame} {meth : Method} {c : Code} {D : va_G} {cy : Nat → ClassId} {ad : Nat → Nat} {bs : Nat} {F : Nat}  (X : mCx p m c cX12_goesOn 5 s args RX12 meth D cy (some .boolean))  {r : Int} {σ' : mMem}   {x1 x2 : Int} {σ : mMem} {H : Heap} {locs : List Loc} {ls : Array Slot} (hw : mWd D cy ad bs true mN σ s.heap H locs) (hl : lv_has ls 5 [(0, .ref (ad 86)), (1, .int (mI x1)), (2, .int (mI x2))]) (hf : g_X12_goesOn_b470 F x1 x2 σ = some (r, σ')) : mGi p l e 3 s m args below meth c D cy ad bs r σ' H locs (F0 m 470 ls []) := by
  obtain ⟨⟨hx, hb, -, -, -⟩, -⟩ := id X
  unfold g_X12_goesOn_b470 at hf
  refine lv_aload_n hx hb dX12_goesOn_470 rfl (lv_at hl 0 rfl) ?_
  refine r_geti X hw sh_86 fd_12_8 rfl lf_X12_36 dX12_goesOn_471 ?_
  refine r_if_le (tgt := 479) X dX12_goesOn_474 (by decide) hf (fun hc hf => ?_) (fun hc hf => ?_)
  · refine lv_aload_n hx hb dX12_goesOn_479 rfl (lv_at hl 0 rfl) ?_
    refine lv_iconst (v := mI 1) hx hb dX12_goesOn_480 rfl ?_
    refine r_cvv (rest := []) [.int (mI 1)] X hw (fun ra σa h => c_X12_joins l D cy ad bs F 1 σ ra σa  h) sh_86 rfl (by decide) rfl km_X12_joins kv_X12_joins lm_X12_344 dX12_goesOn_481 hl.1 rfl rfl (Nat.le_of_ble_eq_true rfl) ⟨by decide, by decide⟩ ⟨Nat.zero_le _, Nat.zero_le _⟩ hf (fun r1776 σ1777 _ hf H locs hw => ?_)
    refine lv_aload_n hx hb dX12_goesOn_484 rfl (lv_at hl 0 rfl) ?_
    refine r_getr 103 X hw sh_86 fd_12_32 rfl rfl lf_X12_110 dX12_goesOn_485 ?_
    refine lv_iload_n hx hb dX12_goesOn_488 rfl (lv_at hl 1 rfl) ?_
    refine lv_iload_n hx hb dX12_goesOn_489 rfl (lv_at hl 2 rfl) ?_
    refine lv_iconst (v := mI 3) hx hb dX12_goesOn_490 rfl ?_
    refine r_icmp_ne (tgt := 498) X dX12_goesOn_491 (by decide) hf (fun hc hf => ?_) (fun hc hf => ?_)
    · refine lv_iconst (v := mI 3) hx hb dX12_goesOn_498 rfl ?_
      exact w_X12_goesOn_b499 X hw (lv_sub hl [0, 1] rfl) hf
    · refine lv_iconst (v := mI 4) hx hb dX12_goesOn_494 rfl ?_
      refine lv_goto (tgt := 499) hx hb dX12_goesOn_495 (by decide) ?_
      exact w_X12_goesOn_b499 X hw (lv_sub hl [0, 1] rfl) hf
  · refine lv_iconst (v := mI 0) hx hb dX12_goesOn_477 rfl ?_
    exact r_zret X hw dX12_goesOn_478 hf
def g_X12_goesOn_b452 (F : Nat)  (x1 x2 : Int) (σ : mMem) : mRs := mob (g_X12_isSign F 44 σ) (fun r1366 σ1367 => if ¬ mw r1366 = 0 then (g_X12_goesOn_b470 F x1 x2 σ1367) else (mob (g_X12_blame F 1 (σ1367 86 4) σ1367) (fun r1368 σ1369 => g_X12_goesOn_b470 F x1 x2 σ1369)))
set_option maxRecDepth 100000 in
set_option maxHeartbeats 4000000 in
theorem w_X12_goesOn_b452 {p : Program} {l : Launch} {e : Env} {s : State} {m : MethodId} {args : Array Value} {below : List Frame} {meth : Method} {c : Code} {D : va_G} {cy : Nat → ClassId} {ad : Nat → Nat} {bs : Nat} {F : Nat}  (X : mCx p m c cX12_goesOn 5 s args RX12 meth D cy (some .boolean))  {r : Int} {σ' : mMem}   {x1 x2 : Int} {σ : mMem} {H : Heap} {locs : List Loc} {ls : Array Slot} (hw : mWd D cy ad bs true mN σ s.heap H locs) (hl : lv_has ls 5 [(0, .ref (ad 86)), (1, .int (mI x1)), (2, .int (mI x2))]) (hf : g_X12_goesOn_b452 F x1 x2 σ = some (r, σ')) : mGi p l e 3 s m args below meth c D cy ad bs r σ' H locs (F0 m 452 ls []) := by
  obtain ⟨⟨hx, hb, -, -, -⟩, -⟩ := id X
  unfold g_X12_goesOn_b452 at hf
  refine lv_aload_n hx hb dX12_goesOn_452 rfl (lv_at hl 0 rfl) ?_
  refine lv_bipush (v := mI 44) hx hb dX12_goesOn_453 (by decide) ?_
  refine r_cvi (rest := []) [.int (mI 44)] X hw (fun ra σa h => c_X12_isSign l D cy ad bs F 44 σ ra σa  h) sh_86 rfl (by decide) rfl km_X12_isSign kv_X12_isSign lm_X12_256 dX12_goesOn_455 hl.1 rfl rfl (Nat.le_of_ble_eq_true rfl) ⟨by decide, by decide⟩ ⟨Nat.zero_le _, Nat.zero_le _⟩ hf (fun r1366 σ1367 _ hf H locs hw => ?_)
  refine r_if_ne (tgt := 470) X dX12_goesOn_458 (by decide) hf (fun hc hf => ?_) (fun hc hf => ?_)
  · exact w_X12_goesOn_b470 X hw (lv_sub hl [0, 1, 2] rfl) hf
  · refine lv_aload_n hx hb dX12_goesOn_461 rfl (lv_at hl 0 rfl) ?_
    refine lv_iconst (v := mI 1) hx hb dX12_goesOn_462 rfl ?_
    refine lv_aload_n hx hb dX12_goesOn_463 rfl (lv_at hl 0 rfl) ?_
    refine r_geti X hw sh_86 fd_12_4 rfl lf_X12_23 dX12_goesOn_464 ?_
    refine r_cvv (rest := []) [.int (mI 1), .int (mI (σ1367 86 4))] X hw (fun ra σa h => c_X12_blame l D cy ad bs F 1 (σ1367 86 4) σ1367 ra σa  h) sh_86 rfl (by decide) rfl km_X12_blame kv_X12_blame lm_X12_242 dX12_goesOn_467 hl.1 rfl rfl (Nat.le_of_ble_eq_true rfl) ⟨by decide, by decide⟩ ⟨Nat.zero_le _, Nat.zero_le _⟩ hf (fun r1368 σ1369 _ hf H locs hw => ?_)
    exact w_X12_goesOn_b470 X hw (lv_sub hl [0, 1, 2] rfl) hf
def g_X12_goesOn_b613 (F : Nat)  (σ : mMem) : mRs := mob (g_X12_ahead F σ) (fun r2297 σ2298 => if mw 1 = 0 ∨ mw 1 = 1 then some (1, σ2298) else none)
set_option maxRecDepth 100000 in
set_option maxHeartbeats 4000000 in
theorem w_X12_goesOn_b613 {p : Program} {l : Launch} {e : Env} {s : State} {m : MethodId} {args : Array Value} {below : List Frame} {meth : Method} {c : Code} {D : va_G} {cy : Nat → ClassId} {ad : Nat → Nat} {bs : Nat} {F : Nat}  (X : mCx p m c cX12_goesOn 5 s args RX12 meth D cy (some .boolean))  {r : Int} {σ' : mMem}    {σ : mMem} {H : Heap} {locs : List Loc} {ls : Array Slot} (hw : mWd D cy ad bs true mN σ s.heap H locs) (hl : lv_has ls 5 [(0, .ref (ad 86))]) (hf : g_X12_goesOn_b613 F  σ = some (r, σ')) : mGi p l e 3 s m args below meth c D cy ad bs r σ' H locs (F0 m 613 ls []) := by
  obtain ⟨⟨hx, hb, -, -, -⟩, -⟩ := id X
  unfold g_X12_goesOn_b613 at hf
  refine lv_aload_n hx hb dX12_goesOn_613 rfl (lv_at hl 0 rfl) ?_
  refine r_cvv (rest := []) [] X hw (fun ra σa h => c_X12_ahead l D cy ad bs F σ ra σa  h) sh_86 rfl (by decide) rfl km_X12_ahead kv_X12_ahead lm_X12_259 dX12_goesOn_614 hl.1 rfl rfl (Nat.le_of_ble_eq_true rfl) ⟨by decide, by decide⟩ ⟨Nat.zero_le _, Nat.zero_le _⟩ hf (fun r2297 σ2298 _ hf H locs hw => ?_)
  refine lv_iconst (v := mI 1) hx hb dX12_goesOn_617 rfl ?_
  exact r_zret X hw dX12_goesOn_618 hf
def g_X12_goesOn_b596 (F : Nat)  (x2 : Int) (σ : mMem) : mRs := if ¬ mw x2 = mw 5 then (g_X12_goesOn_b613 F σ) else (if 0 ≤ mw ((σ 86 37) - 1) ∧ mw ((σ 86 37) - 1) < (20 : Int) then mlm (mup σ 104 (mw ((σ 86 37) - 1)).toNat 2) (fun σ2196 => g_X12_goesOn_b613 F σ2196) else none)
set_option maxRecDepth 100000 in
set_option maxHeartbeats 4000000 in
theorem w_X12_goesOn_b596 {p : Program} {l : Launch} {e : Env} {s : State} {m : MethodId} {args : Array Value} {below : List Frame} {meth : Method} {c : Code} {D : va_G} {cy : Nat → ClassId} {ad : Nat → Nat} {bs : Nat} {F : Nat}  (X : mCx p m c cX12_goesOn 5 s args RX12 meth D cy (some .boolean))  {r : Int} {σ' : mMem}   {x2 : Int} {σ : mMem} {H : Heap} {locs : List Loc} {ls : Array Slot} (hw : mWd D cy ad bs true mN σ s.heap H locs) (hl : lv_has ls 5 [(0, .ref (ad 86)), (2, .int (mI x2))]) (hf : g_X12_goesOn_b596 F x2 σ = some (r, σ')) : mGi p l e 3 s m args below meth c D cy ad bs r σ' H locs (F0 m 596 ls []) := by
  obtain ⟨⟨hx, hb, -, -, -⟩, -⟩ := id X
  unfold g_X12_goesOn_b596 at hf
  refine lv_iload_n hx hb dX12_goesOn_596 rfl (lv_at hl 1 rfl) ?_
  refine lv_iconst (v := mI 5) hx hb dX12_goesOn_597 rfl ?_
  refine r_icmp_ne (tgt := 613) X dX12_goesOn_598 (by decide) hf (fun hc hf => ?_) (fun hc hf => ?_)
  · exact w_X12_goesOn_b613 X hw (lv_sub hl [0] rfl) hf
  · refine lv_aload_n hx hb dX12_goesOn_601 rfl (lv_at hl 0 rfl) ?_
    refine r_getr 104 X hw sh_86 fd_12_33 rfl rfl lf_X12_113 dX12_goesOn_602 ?_
    refine lv_aload_n hx hb dX12_goesOn_605 rfl (lv_at hl 0 rfl) ?_
    refine r_geti X hw sh_86 fd_12_37 rfl lf_X12_126 dX12_goesOn_606 ?_
    refine lv_iconst (v := mI 1) hx hb dX12_goesOn_609 rfl ?_
    refine r_isub X dX12_goesOn_610 ?_
    refine lv_iconst (v := mI 2) hx hb dX12_goesOn_611 rfl ?_
    refine r_iast (20 : Int) rfl X hw sh_104 dX12_goesOn_612 hf (fun hf H locs hw => ?_)
    refine r_mem hf hw (fun σ2196 hw hf => ?_)
    exact w_X12_goesOn_b613 X hw (lv_sub hl [0] rfl) hf
def g_X12_goesOn_b546 (F : Nat)  (x1 x2 : Int) (σ : mMem) : mRs := if mw (σ 86 8) ≤ 0 then (mob (g_X12_joins F 1 σ) (fun r1878 σ1879 => mlm (mup σ1879 86 37 ((σ1879 86 37) - 1)) (fun σ1880 => mlm (mup σ1880 86 38 ((σ1880 86 38) - 1)) (fun σ1881 => if ¬ mw x2 = mw 4 then (g_X12_goesOn_b596 F x2 σ1881) else (if 0 ≤ mw x1 ∧ mw x1 < (20 : Int) then mob (g_X12_add F (σ1881 106 (mw x1).toNat) 0 σ1881) (fun r1882 σ1883 => g_X12_goesOn_b596 F x2 σ1883) else none))))) else (if mw 0 = 0 ∨ mw 0 = 1 then some (0, σ) else none)
set_option maxRecDepth 100000 in
set_option maxHeartbeats 4000000 in
theorem w_X12_goesOn_b546 {p : Program} {l : Launch} {e : Env} {s : State} {m : MethodId} {args : Array Value} {below : List Frame} {meth : Method} {c : Code} {D : va_G} {cy : Nat → ClassId} {ad : Nat → Nat} {bs : Nat} {F : Nat}  (X : mCx p m c cX12_goesOn 5 s args RX12 meth D cy (some .boolean))  {r : Int} {σ' : mMem}   {x1 x2 : Int} {σ : mMem} {H : Heap} {locs : List Loc} {ls : Array Slot} (hw : mWd D cy ad bs true mN σ s.heap H locs) (hl : lv_has ls 5 [(0, .ref (ad 86)), (1, .int (mI x1)), (2, .int (mI x2))]) (hf : g_X12_goesOn_b546 F x1 x2 σ = some (r, σ')) : mGi p l e 3 s m args below meth c D cy ad bs r σ' H locs (F0 m 546 ls []) := by
  obtain ⟨⟨hx, hb, -, -, -⟩, -⟩ := id X
  unfold g_X12_goesOn_b546 at hf
  refine lv_aload_n hx hb dX12_goesOn_546 rfl (lv_at hl 0 rfl) ?_
  refine r_geti X hw sh_86 fd_12_8 rfl lf_X12_36 dX12_goesOn_547 ?_
  refine r_if_le (tgt := 555) X dX12_goesOn_550 (by decide) hf (fun hc hf => ?_) (fun hc hf => ?_)
  · refine lv_aload_n hx hb dX12_goesOn_555 rfl (lv_at hl 0 rfl) ?_
    refine lv_iconst (v := mI 1) hx hb dX12_goesOn_556 rfl ?_
    refine r_cvv (rest := []) [.int (mI 1)] X hw (fun ra σa h => c_X12_joins l D cy ad bs F 1 σ ra σa  h) sh_86 rfl (by decide) rfl km_X12_joins kv_X12_joins lm_X12_344 dX12_goesOn_557 hl.1 rfl rfl (Nat.le_of_ble_eq_true rfl) ⟨by decide, by decide⟩ ⟨Nat.zero_le _, Nat.zero_le _⟩ hf (fun r1878 σ1879 _ hf H locs hw => ?_)
    refine lv_aload_n hx hb dX12_goesOn_560 rfl (lv_at hl 0 rfl) ?_
    refine lv_dup hx hb dX12_goesOn_561 rfl ?_
    refine r_geti X hw sh_86 fd_12_37 rfl lf_X12_126 dX12_goesOn_562 ?_
    refine lv_iconst (v := mI 1) hx hb dX12_goesOn_565 rfl ?_
    refine r_isub X dX12_goesOn_566 ?_
    refine r_puti X hw sh_86 fd_12_37 fp_12_37 rfl rfl lf_X12_126 dX12_goesOn_567 (fun H locs hw => ?_)
    refine r_mem hf hw (fun σ1880 hw hf => ?_)
    refine lv_aload_n hx hb dX12_goesOn_570 rfl (lv_at hl 0 rfl) ?_
    refine lv_dup hx hb dX12_goesOn_571 rfl ?_
    refine r_geti X hw sh_86 fd_12_38 rfl lf_X12_129 dX12_goesOn_572 ?_
    refine lv_iconst (v := mI 1) hx hb dX12_goesOn_575 rfl ?_
    refine r_isub X dX12_goesOn_576 ?_
    refine r_puti X hw sh_86 fd_12_38 fp_12_38 rfl rfl lf_X12_129 dX12_goesOn_577 (fun H locs hw => ?_)
    refine r_mem hf hw (fun σ1881 hw hf => ?_)
    refine lv_iload_n hx hb dX12_goesOn_580 rfl (lv_at hl 2 rfl) ?_
    refine lv_iconst (v := mI 4) hx hb dX12_goesOn_581 rfl ?_
    refine r_icmp_ne (tgt := 596) X dX12_goesOn_582 (by decide) hf (fun hc hf => ?_) (fun hc hf => ?_)
    · exact w_X12_goesOn_b596 X hw (lv_sub hl [0, 2] rfl) hf
    · refine lv_aload_n hx hb dX12_goesOn_585 rfl (lv_at hl 0 rfl) ?_
      refine lv_aload_n hx hb dX12_goesOn_586 rfl (lv_at hl 0 rfl) ?_
      refine r_getr 106 X hw sh_86 fd_12_35 rfl rfl lf_X12_120 dX12_goesOn_587 ?_
      refine lv_iload_n hx hb dX12_goesOn_590 rfl (lv_at hl 1 rfl) ?_
      refine r_iald (20 : Int) rfl X hw sh_106 dX12_goesOn_591 hf (fun hf => ?_)
      refine lv_iconst (v := mI 0) hx hb dX12_goesOn_592 rfl ?_
      refine r_cvv (rest := []) [.int (mI (σ1881 106 (mw x1).toNat)), .int (mI 0)] X hw (fun ra σa h => c_X12_add l D cy ad bs F (σ1881 106 (mw x1).toNat) 0 σ1881 ra σa  h) sh_86 rfl (by decide) rfl km_X12_add kv_X12_add lm_X12_325 dX12_goesOn_593 hl.1 rfl rfl (Nat.le_of_ble_eq_true rfl) ⟨by decide, by decide⟩ ⟨Nat.zero_le _, Nat.zero_le _⟩ hf (fun r1882 σ1883 _ hf H locs hw => ?_)
      exact w_X12_goesOn_b596 X hw (lv_sub hl [0, 2] rfl) hf
  · refine lv_iconst (v := mI 0) hx hb dX12_goesOn_553 rfl ?_
    exact r_zret X hw dX12_goesOn_554 hf
def g_X12_goesOn_b531 (F : Nat)  (x1 x2 t0 : Int) (σ : mMem) : mRs := mob (g_X12_isSign F t0 σ) (fun r1470 σ1471 => if ¬ mw r1470 = 0 then (g_X12_goesOn_b546 F x1 x2 σ1471) else (mob (g_X12_blame F 1 (σ1471 86 4) σ1471) (fun r1472 σ1473 => g_X12_goesOn_b546 F x1 x2 σ1473)))
set_option maxRecDepth 100000 in
set_option maxHeartbeats 4000000 in
theorem w_X12_goesOn_b531 {p : Program} {l : Launch} {e : Env} {s : State} {m : MethodId} {args : Array Value} {below : List Frame} {meth : Method} {c : Code} {D : va_G} {cy : Nat → ClassId} {ad : Nat → Nat} {bs : Nat} {F : Nat}  (X : mCx p m c cX12_goesOn 5 s args RX12 meth D cy (some .boolean))  {r : Int} {σ' : mMem}   {x1 x2 t0 : Int} {σ : mMem} {H : Heap} {locs : List Loc} {ls : Array Slot} (hw : mWd D cy ad bs true mN σ s.heap H locs) (hl : lv_has ls 5 [(0, .ref (ad 86)), (1, .int (mI x1)), (2, .int (mI x2))]) (hf : g_X12_goesOn_b531 F x1 x2 t0 σ = some (r, σ')) : mGi p l e 3 s m args below meth c D cy ad bs r σ' H locs (F0 m 531 ls [.int (mI t0), .ref (ad 86)]) := by
  obtain ⟨⟨hx, hb, -, -, -⟩, -⟩ := id X
  unfold g_X12_goesOn_b531 at hf
  refine r_cvi (rest := []) [.int (mI t0)] X hw (fun ra σa h => c_X12_isSign l D cy ad bs F t0 σ ra σa  h) sh_86 rfl (by decide) rfl km_X12_isSign kv_X12_isSign lm_X12_256 dX12_goesOn_531 hl.1 rfl rfl (Nat.le_of_ble_eq_true rfl) ⟨by decide, by decide⟩ ⟨Nat.zero_le _, Nat.zero_le _⟩ hf (fun r1470 σ1471 _ hf H locs hw => ?_)
  refine r_if_ne (tgt := 546) X dX12_goesOn_534 (by decide) hf (fun hc hf => ?_) (fun hc hf => ?_)
  · exact w_X12_goesOn_b546 X hw (lv_sub hl [0, 1, 2] rfl) hf
  · refine lv_aload_n hx hb dX12_goesOn_537 rfl (lv_at hl 0 rfl) ?_
    refine lv_iconst (v := mI 1) hx hb dX12_goesOn_538 rfl ?_
    refine lv_aload_n hx hb dX12_goesOn_539 rfl (lv_at hl 0 rfl) ?_
    refine r_geti X hw sh_86 fd_12_4 rfl lf_X12_23 dX12_goesOn_540 ?_
    refine r_cvv (rest := []) [.int (mI 1), .int (mI (σ1471 86 4))] X hw (fun ra σa h => c_X12_blame l D cy ad bs F 1 (σ1471 86 4) σ1471 ra σa  h) sh_86 rfl (by decide) rfl km_X12_blame kv_X12_blame lm_X12_242 dX12_goesOn_543 hl.1 rfl rfl (Nat.le_of_ble_eq_true rfl) ⟨by decide, by decide⟩ ⟨Nat.zero_le _, Nat.zero_le _⟩ hf (fun r1472 σ1473 _ hf H locs hw => ?_)
    exact w_X12_goesOn_b546 X hw (lv_sub hl [0, 1, 2] rfl) hf
def g_X12_goesOn_b439 (F : Nat)  (σ : mMem) : mRs := if mw 0 = 0 ∨ mw 0 = 1 then some (0, σ) else none
set_option maxRecDepth 100000 in
set_option maxHeartbeats 4000000 in
theorem w_X12_goesOn_b439 {p : Program} {l : Launch} {e : Env} {s : State} {m : MethodId} {args : Array Value} {below : List Frame} {meth : Method} {c : Code} {D : va_G} {cy : Nat → ClassId} {ad : Nat → Nat} {bs : Nat} {F : Nat}  (X : mCx p m c cX12_goesOn 5 s args RX12 meth D cy (some .boolean))  {r : Int} {σ' : mMem}    {σ : mMem} {H : Heap} {locs : List Loc} {ls : Array Slot} (hw : mWd D cy ad bs true mN σ s.heap H locs) (hl : lv_has ls 5 [(0, .ref (ad 86))]) (hf : g_X12_goesOn_b439 F  σ = some (r, σ')) : mGi p l e 3 s m args below meth c D cy ad bs r σ' H locs (F0 m 439 ls []) := by
  obtain ⟨⟨hx, hb, -, -, -⟩, -⟩ := id X
  unfold g_X12_goesOn_b439 at hf
  refine lv_iconst (v := mI 0) hx hb dX12_goesOn_439 rfl ?_
  exact r_zret X hw dX12_goesOn_440 hf
def g_X12_goesOn_b422 (F : Nat)  (x1 x2 : Int) (σ : mMem) : mRs := if mw 2 ≤ mw x2 then (if mw x2 = mw 3 then (g_X12_goesOn_b452 F x1 x2 σ) else (if ¬ mw x2 = mw 6 then (if ¬ mw x2 = mw 5 then (g_X12_goesOn_b531 F x1 x2 41 σ) else (g_X12_goesOn_b531 F x1 x2 93 σ)) else (g_X12_goesOn_b452 F x1 x2 σ))) else (if ¬ mw (σ 86 8) = 0 then (g_X12_goesOn_b439 F σ) else (mob (g_X12_joins F 1 σ) (fun r1162 σ1163 => g_X12_goesOn_b439 F σ1163)))
set_option maxRecDepth 100000 in
set_option maxHeartbeats 4000000 in
theorem w_X12_goesOn_b422 {p : Program} {l : Launch} {e : Env} {s : State} {m : MethodId} {args : Array Value} {below : List Frame} {meth : Method} {c : Code} {D : va_G} {cy : Nat → ClassId} {ad : Nat → Nat} {bs : Nat} {F : Nat}  (X : mCx p m c cX12_goesOn 5 s args RX12 meth D cy (some .boolean))  {r : Int} {σ' : mMem}   {x1 x2 : Int} {σ : mMem} {H : Heap} {locs : List Loc} {ls : Array Slot} (hw : mWd D cy ad bs true mN σ s.heap H locs) (hl : lv_has ls 5 [(0, .ref (ad 86)), (1, .int (mI x1)), (2, .int (mI x2))]) (hf : g_X12_goesOn_b422 F x1 x2 σ = some (r, σ')) : mGi p l e 3 s m args below meth c D cy ad bs r σ' H locs (F0 m 422 ls []) := by
  obtain ⟨⟨hx, hb, -, -, -⟩, -⟩ := id X
  unfold g_X12_goesOn_b422 at hf
  refine lv_iload_n hx hb dX12_goesOn_422 rfl (lv_at hl 2 rfl) ?_
  refine lv_iconst (v := mI 2) hx hb dX12_goesOn_423 rfl ?_
  refine r_icmp_ge (tgt := 441) X dX12_goesOn_424 (by decide) hf (fun hc hf => ?_) (fun hc hf => ?_)
  · refine lv_iload_n hx hb dX12_goesOn_441 rfl (lv_at hl 2 rfl) ?_
    refine lv_iconst (v := mI 3) hx hb dX12_goesOn_442 rfl ?_
    refine r_icmp_eq (tgt := 452) X dX12_goesOn_443 (by decide) hf (fun hc hf => ?_) (fun hc hf => ?_)
    · exact w_X12_goesOn_b452 X hw (lv_sub hl [0, 1, 2] rfl) hf
    · refine lv_iload_n hx hb dX12_goesOn_446 rfl (lv_at hl 2 rfl) ?_
      refine lv_bipush (v := mI 6) hx hb dX12_goesOn_447 (by decide) ?_
      refine r_icmp_ne (tgt := 518) X dX12_goesOn_449 (by decide) hf (fun hc hf => ?_) (fun hc hf => ?_)
      · refine lv_aload_n hx hb dX12_goesOn_518 rfl (lv_at hl 0 rfl) ?_
        refine lv_iload_n hx hb dX12_goesOn_519 rfl (lv_at hl 2 rfl) ?_
        refine lv_iconst (v := mI 5) hx hb dX12_goesOn_520 rfl ?_
        refine r_icmp_ne (tgt := 529) X dX12_goesOn_521 (by decide) hf (fun hc hf => ?_) (fun hc hf => ?_)
        · refine lv_bipush (v := mI 41) hx hb dX12_goesOn_529 (by decide) ?_
          exact w_X12_goesOn_b531 X hw (lv_sub hl [0, 1, 2] rfl) hf
        · refine lv_bipush (v := mI 93) hx hb dX12_goesOn_524 (by decide) ?_
          refine lv_goto (tgt := 531) hx hb dX12_goesOn_526 (by decide) ?_
          exact w_X12_goesOn_b531 X hw (lv_sub hl [0, 1, 2] rfl) hf
      · exact w_X12_goesOn_b452 X hw (lv_sub hl [0, 1, 2] rfl) hf
  · refine lv_aload_n hx hb dX12_goesOn_427 rfl (lv_at hl 0 rfl) ?_
    refine r_geti X hw sh_86 fd_12_8 rfl lf_X12_36 dX12_goesOn_428 ?_
    refine r_if_ne (tgt := 439) X dX12_goesOn_431 (by decide) hf (fun hc hf => ?_) (fun hc hf => ?_)
    · exact w_X12_goesOn_b439 X hw (lv_sub hl [0] rfl) hf
    · refine lv_aload_n hx hb dX12_goesOn_434 rfl (lv_at hl 0 rfl) ?_
      refine lv_iconst (v := mI 1) hx hb dX12_goesOn_435 rfl ?_
      refine r_cvv (rest := []) [.int (mI 1)] X hw (fun ra σa h => c_X12_joins l D cy ad bs F 1 σ ra σa  h) sh_86 rfl (by decide) rfl km_X12_joins kv_X12_joins lm_X12_344 dX12_goesOn_436 hl.1 rfl rfl (Nat.le_of_ble_eq_true rfl) ⟨by decide, by decide⟩ ⟨Nat.zero_le _, Nat.zero_le _⟩ hf (fun r1162 σ1163 _ hf H locs hw => ?_)
      exact w_X12_goesOn_b439 X hw (lv_sub hl [0] rfl) hf
def g_X12_goesOn_b400 (F : Nat)  (x1 x2 x3 : Int) (σ : mMem) : mRs := if mw x3 = 0 then (g_X12_goesOn_b422 F x1 x2 σ) else (if 0 ≤ mw x1 ∧ mw x1 < (20 : Int) then if ¬ mw (σ 104 (mw x1).toNat) = 0 then (g_X12_goesOn_b422 F x1 x2 σ) else (mob (g_X12_blame F 1 (σ 86 4) σ) (fun r747 σ748 => g_X12_goesOn_b422 F x1 x2 σ748)) else none)
set_option maxRecDepth 100000 in
set_option maxHeartbeats 4000000 in
theorem w_X12_goesOn_b400 {p : Program} {l : Launch} {e : Env} {s : State} {m : MethodId} {args : Array Value} {below : List Frame} {meth : Method} {c : Code} {D : va_G} {cy : Nat → ClassId} {ad : Nat → Nat} {bs : Nat} {F : Nat}  (X : mCx p m c cX12_goesOn 5 s args RX12 meth D cy (some .boolean))  {r : Int} {σ' : mMem}   {x1 x2 x3 : Int} {σ : mMem} {H : Heap} {locs : List Loc} {ls : Array Slot} (hw : mWd D cy ad bs true mN σ s.heap H locs) (hl : lv_has ls 5 [(0, .ref (ad 86)), (1, .int (mI x1)), (2, .int (mI x2)), (3, .int (mI x3))]) (hf : g_X12_goesOn_b400 F x1 x2 x3 σ = some (r, σ')) : mGi p l e 3 s m args below meth c D cy ad bs r σ' H locs (F0 m 400 ls []) := by
  obtain ⟨⟨hx, hb, -, -, -⟩, -⟩ := id X
  unfold g_X12_goesOn_b400 at hf
  refine lv_iload_n hx hb dX12_goesOn_400 rfl (lv_at hl 3 rfl) ?_
  refine r_if_eq (tgt := 422) X dX12_goesOn_401 (by decide) hf (fun hc hf => ?_) (fun hc hf => ?_)
  · exact w_X12_goesOn_b422 X hw (lv_sub hl [0, 1, 2] rfl) hf
  · refine lv_aload_n hx hb dX12_goesOn_404 rfl (lv_at hl 0 rfl) ?_
    refine r_getr 104 X hw sh_86 fd_12_33 rfl rfl lf_X12_113 dX12_goesOn_405 ?_
    refine lv_iload_n hx hb dX12_goesOn_408 rfl (lv_at hl 1 rfl) ?_
    refine r_iald (20 : Int) rfl X hw sh_104 dX12_goesOn_409 hf (fun hf => ?_)
    refine r_if_ne (tgt := 422) X dX12_goesOn_410 (by decide) hf (fun hc hf => ?_) (fun hc hf => ?_)
    · exact w_X12_goesOn_b422 X hw (lv_sub hl [0, 1, 2] rfl) hf
    · refine lv_aload_n hx hb dX12_goesOn_413 rfl (lv_at hl 0 rfl) ?_
      refine lv_iconst (v := mI 1) hx hb dX12_goesOn_414 rfl ?_
      refine lv_aload_n hx hb dX12_goesOn_415 rfl (lv_at hl 0 rfl) ?_
      refine r_geti X hw sh_86 fd_12_4 rfl lf_X12_23 dX12_goesOn_416 ?_
      refine r_cvv (rest := []) [.int (mI 1), .int (mI (σ 86 4))] X hw (fun ra σa h => c_X12_blame l D cy ad bs F 1 (σ 86 4) σ ra σa  h) sh_86 rfl (by decide) rfl km_X12_blame kv_X12_blame lm_X12_242 dX12_goesOn_419 hl.1 rfl rfl (Nat.le_of_ble_eq_true rfl) ⟨by decide, by decide⟩ ⟨Nat.zero_le _, Nat.zero_le _⟩ hf (fun r747 σ748 _ hf H locs hw => ?_)
      exact w_X12_goesOn_b422 X hw (lv_sub hl [0, 1, 2] rfl) hf
def g_X12_goesOn_b372 (F : Nat)  (x1 t0 : Int) (σ : mMem) : mRs := mob (g_X12_holdsBack F t0 σ) (fun r1984 σ1985 => if 0 ≤ mw x1 ∧ mw x1 < (20 : Int) then mlm (mup σ1985 104 (mw x1).toNat 0) (fun σ1986 => if 0 ≤ mw x1 ∧ mw x1 < (20 : Int) ∧ (mw 1 = 0 ∨ mw 1 = 1) then mlm (mup σ1986 105 (mw x1).toNat 1) (fun σ1987 => mob (g_X12_ahead F σ1987) (fun r1988 σ1989 => if mw 0 = 0 ∨ mw 0 = 1 then mlm (mup σ1989 86 41 0) (fun σ1990 => if mw 1 = 0 ∨ mw 1 = 1 then some (1, σ1990) else none) else none)) else none) else none)
set_option maxRecDepth 100000 in
set_option maxHeartbeats 4000000 in
theorem w_X12_goesOn_b372 {p : Program} {l : Launch} {e : Env} {s : State} {m : MethodId} {args : Array Value} {below : List Frame} {meth : Method} {c : Code} {D : va_G} {cy : Nat → ClassId} {ad : Nat → Nat} {bs : Nat} {F : Nat}  (X : mCx p m c cX12_goesOn 5 s args RX12 meth D cy (some .boolean))  {r : Int} {σ' : mMem}   {x1 t0 : Int} {σ : mMem} {H : Heap} {locs : List Loc} {ls : Array Slot} (hw : mWd D cy ad bs true mN σ s.heap H locs) (hl : lv_has ls 5 [(0, .ref (ad 86)), (1, .int (mI x1))]) (hf : g_X12_goesOn_b372 F x1 t0 σ = some (r, σ')) : mGi p l e 3 s m args below meth c D cy ad bs r σ' H locs (F0 m 372 ls [.int (mI t0), .ref (ad 86)]) := by
  obtain ⟨⟨hx, hb, -, -, -⟩, -⟩ := id X
  unfold g_X12_goesOn_b372 at hf
  refine r_cvv (rest := []) [.int (mI t0)] X hw (fun ra σa h => c_X12_holdsBack l D cy ad bs F t0 σ ra σa  h) sh_86 rfl (by decide) rfl km_X12_holdsBack kv_X12_holdsBack lm_X12_338 dX12_goesOn_372 hl.1 rfl rfl (Nat.le_of_ble_eq_true rfl) ⟨by decide, by decide⟩ ⟨Nat.zero_le _, Nat.zero_le _⟩ hf (fun r1984 σ1985 _ hf H locs hw => ?_)
  refine lv_aload_n hx hb dX12_goesOn_375 rfl (lv_at hl 0 rfl) ?_
  refine r_getr 104 X hw sh_86 fd_12_33 rfl rfl lf_X12_113 dX12_goesOn_376 ?_
  refine lv_iload_n hx hb dX12_goesOn_379 rfl (lv_at hl 1 rfl) ?_
  refine lv_iconst (v := mI 0) hx hb dX12_goesOn_380 rfl ?_
  refine r_iast (20 : Int) rfl X hw sh_104 dX12_goesOn_381 hf (fun hf H locs hw => ?_)
  refine r_mem hf hw (fun σ1986 hw hf => ?_)
  refine lv_aload_n hx hb dX12_goesOn_382 rfl (lv_at hl 0 rfl) ?_
  refine r_getr 105 X hw sh_86 fd_12_34 rfl rfl lf_X12_116 dX12_goesOn_383 ?_
  refine lv_iload_n hx hb dX12_goesOn_386 rfl (lv_at hl 1 rfl) ?_
  refine lv_iconst (v := mI 1) hx hb dX12_goesOn_387 rfl ?_
  refine r_zast (20 : Int) rfl X hw sh_105 dX12_goesOn_388 hf (fun hf H locs hw => ?_)
  refine r_mem hf hw (fun σ1987 hw hf => ?_)
  refine lv_aload_n hx hb dX12_goesOn_389 rfl (lv_at hl 0 rfl) ?_
  refine r_cvv (rest := []) [] X hw (fun ra σa h => c_X12_ahead l D cy ad bs F σ1987 ra σa  h) sh_86 rfl (by decide) rfl km_X12_ahead kv_X12_ahead lm_X12_259 dX12_goesOn_390 hl.1 rfl rfl (Nat.le_of_ble_eq_true rfl) ⟨by decide, by decide⟩ ⟨Nat.zero_le _, Nat.zero_le _⟩ hf (fun r1988 σ1989 _ hf H locs hw => ?_)
  refine lv_aload_n hx hb dX12_goesOn_393 rfl (lv_at hl 0 rfl) ?_
  refine lv_iconst (v := mI 0) hx hb dX12_goesOn_394 rfl ?_
  refine r_putz X hw sh_86 fd_12_41 fp_12_41 rfl rfl lf_X12_138 dX12_goesOn_395 hf (fun hf H locs hw => ?_)
  refine r_mem hf hw (fun σ1990 hw hf => ?_)
  refine lv_iconst (v := mI 1) hx hb dX12_goesOn_398 rfl ?_
  exact r_zret X hw dX12_goesOn_399 hf
def g_X12_goesOn_b356 (F : Nat)  (x1 x4 t0 : Int) (σ : mMem) : mRs := mob (g_X12_joins F t0 σ) (fun r1674 σ1675 => if mw x4 = 0 then (g_X12_goesOn_b372 F x1 42 σ1675) else (g_X12_goesOn_b372 F x1 41 σ1675))
set_option maxRecDepth 100000 in
set_option maxHeartbeats 4000000 in
theorem w_X12_goesOn_b356 {p : Program} {l : Launch} {e : Env} {s : State} {m : MethodId} {args : Array Value} {below : List Frame} {meth : Method} {c : Code} {D : va_G} {cy : Nat → ClassId} {ad : Nat → Nat} {bs : Nat} {F : Nat}  (X : mCx p m c cX12_goesOn 5 s args RX12 meth D cy (some .boolean))  {r : Int} {σ' : mMem}   {x1 x4 t0 : Int} {σ : mMem} {H : Heap} {locs : List Loc} {ls : Array Slot} (hw : mWd D cy ad bs true mN σ s.heap H locs) (hl : lv_has ls 5 [(0, .ref (ad 86)), (1, .int (mI x1)), (4, .int (mI x4))]) (hf : g_X12_goesOn_b356 F x1 x4 t0 σ = some (r, σ')) : mGi p l e 3 s m args below meth c D cy ad bs r σ' H locs (F0 m 356 ls [.int (mI t0), .ref (ad 86)]) := by
  obtain ⟨⟨hx, hb, -, -, -⟩, -⟩ := id X
  unfold g_X12_goesOn_b356 at hf
  refine r_cvv (rest := []) [.int (mI t0)] X hw (fun ra σa h => c_X12_joins l D cy ad bs F t0 σ ra σa  h) sh_86 rfl (by decide) rfl km_X12_joins kv_X12_joins lm_X12_344 dX12_goesOn_356 hl.1 rfl rfl (Nat.le_of_ble_eq_true rfl) ⟨by decide, by decide⟩ ⟨Nat.zero_le _, Nat.zero_le _⟩ hf (fun r1674 σ1675 _ hf H locs hw => ?_)
  refine lv_aload_n hx hb dX12_goesOn_359 rfl (lv_at hl 0 rfl) ?_
  refine lv_iload hx hb dX12_goesOn_360 (lv_at hl 2 rfl) ?_
  refine r_if_eq (tgt := 370) X dX12_goesOn_362 (by decide) hf (fun hc hf => ?_) (fun hc hf => ?_)
  · refine lv_bipush (v := mI 42) hx hb dX12_goesOn_370 (by decide) ?_
    exact w_X12_goesOn_b372 X hw (lv_sub hl [0, 1] rfl) hf
  · refine lv_bipush (v := mI 41) hx hb dX12_goesOn_365 (by decide) ?_
    refine lv_goto (tgt := 372) hx hb dX12_goesOn_367 (by decide) ?_
    exact w_X12_goesOn_b372 X hw (lv_sub hl [0, 1] rfl) hf
def g_X12_goesOn_b327 (F : Nat)  (x1 : Int) (σ : mMem) : mRs := if mw (σ 86 8) ≤ 0 then (mob (g_X12_isWord F 6385252 σ) (fun r1264 σ1265 => if mw r1264 = 0 then (g_X12_goesOn_b356 F x1 r1264 1 σ1265) else (g_X12_goesOn_b356 F x1 r1264 2 σ1265))) else (if mw 0 = 0 ∨ mw 0 = 1 then some (0, σ) else none)
set_option maxRecDepth 100000 in
set_option maxHeartbeats 4000000 in
theorem w_X12_goesOn_b327 {p : Program} {l : Launch} {e : Env} {s : State} {m : MethodId} {args : Array Value} {below : List Frame} {meth : Method} {c : Code} {D : va_G} {cy : Nat → ClassId} {ad : Nat → Nat} {bs : Nat} {F : Nat}  (X : mCx p m c cX12_goesOn 5 s args RX12 meth D cy (some .boolean))  {r : Int} {σ' : mMem}   {x1 : Int} {σ : mMem} {H : Heap} {locs : List Loc} {ls : Array Slot} (hw : mWd D cy ad bs true mN σ s.heap H locs) (hl : lv_has ls 5 [(0, .ref (ad 86)), (1, .int (mI x1))]) (hf : g_X12_goesOn_b327 F x1 σ = some (r, σ')) : mGi p l e 3 s m args below meth c D cy ad bs r σ' H locs (F0 m 327 ls []) := by
  obtain ⟨⟨hx, hb, -, -, -⟩, -⟩ := id X
  unfold g_X12_goesOn_b327 at hf
  refine lv_aload_n hx hb dX12_goesOn_327 rfl (lv_at hl 0 rfl) ?_
  refine r_geti X hw sh_86 fd_12_8 rfl lf_X12_36 dX12_goesOn_328 ?_
  refine r_if_le (tgt := 336) X dX12_goesOn_331 (by decide) hf (fun hc hf => ?_) (fun hc hf => ?_)
  · refine lv_aload_n hx hb dX12_goesOn_336 rfl (lv_at hl 0 rfl) ?_
    refine r_ldc2 (z := 6385252) (by decide) X lc_X12_308 dX12_goesOn_337 ?_
    refine r_cvi (rest := []) [.long (mL 6385252)] X hw (fun ra σa h => c_X12_isWord l D cy ad bs F 6385252 σ ra σa  h) sh_86 rfl (by decide) rfl km_X12_isWord kv_X12_isWord lm_X12_334 dX12_goesOn_340 hl.1 rfl rfl (Nat.le_of_ble_eq_true rfl) ⟨by decide, by decide⟩ ⟨Nat.zero_le _, Nat.zero_le _⟩ hf (fun r1264 σ1265 _ hf H locs hw => ?_)
    refine lv_istore (lv' := [(4, .int (mI r1264)), (0, .ref (ad 86)), (1, .int (mI x1))]) hx hb dX12_goesOn_343 hl (by decide) rfl (fun ls hl => ?_)
    refine lv_aload_n hx hb dX12_goesOn_345 rfl (lv_at hl 1 rfl) ?_
    refine lv_iload hx hb dX12_goesOn_346 (lv_at hl 0 rfl) ?_
    refine r_if_eq (tgt := 355) X dX12_goesOn_348 (by decide) hf (fun hc hf => ?_) (fun hc hf => ?_)
    · refine lv_iconst (v := mI 1) hx hb dX12_goesOn_355 rfl ?_
      exact w_X12_goesOn_b356 X hw (lv_sub hl [1, 2, 0] rfl) hf
    · refine lv_iconst (v := mI 2) hx hb dX12_goesOn_351 rfl ?_
      refine lv_goto (tgt := 356) hx hb dX12_goesOn_352 (by decide) ?_
      exact w_X12_goesOn_b356 X hw (lv_sub hl [1, 2, 0] rfl) hf
  · refine lv_iconst (v := mI 0) hx hb dX12_goesOn_334 rfl ?_
    exact r_zret X hw dX12_goesOn_335 hf
def g_X12_goesOn_b309 (F : Nat)  (x1 : Int) (σ : mMem) : mRs := if 0 ≤ mw x1 ∧ mw x1 < (20 : Int) then if ¬ mw (σ 104 (mw x1).toNat) = 0 then (g_X12_goesOn_b327 F x1 σ) else (mob (g_X12_blame F 1 (σ 86 4) σ) (fun r849 σ850 => g_X12_goesOn_b327 F x1 σ850)) else none
set_option maxRecDepth 100000 in
set_option maxHeartbeats 4000000 in
theorem w_X12_goesOn_b309 {p : Program} {l : Launch} {e : Env} {s : State} {m : MethodId} {args : Array Value} {below : List Frame} {meth : Method} {c : Code} {D : va_G} {cy : Nat → ClassId} {ad : Nat → Nat} {bs : Nat} {F : Nat}  (X : mCx p m c cX12_goesOn 5 s args RX12 meth D cy (some .boolean))  {r : Int} {σ' : mMem}   {x1 : Int} {σ : mMem} {H : Heap} {locs : List Loc} {ls : Array Slot} (hw : mWd D cy ad bs true mN σ s.heap H locs) (hl : lv_has ls 5 [(0, .ref (ad 86)), (1, .int (mI x1))]) (hf : g_X12_goesOn_b309 F x1 σ = some (r, σ')) : mGi p l e 3 s m args below meth c D cy ad bs r σ' H locs (F0 m 309 ls []) := by
  obtain ⟨⟨hx, hb, -, -, -⟩, -⟩ := id X
  unfold g_X12_goesOn_b309 at hf
  refine lv_aload_n hx hb dX12_goesOn_309 rfl (lv_at hl 0 rfl) ?_
  refine r_getr 104 X hw sh_86 fd_12_33 rfl rfl lf_X12_113 dX12_goesOn_310 ?_
  refine lv_iload_n hx hb dX12_goesOn_313 rfl (lv_at hl 1 rfl) ?_
  refine r_iald (20 : Int) rfl X hw sh_104 dX12_goesOn_314 hf (fun hf => ?_)
  refine r_if_ne (tgt := 327) X dX12_goesOn_315 (by decide) hf (fun hc hf => ?_) (fun hc hf => ?_)
  · exact w_X12_goesOn_b327 X hw (lv_sub hl [0, 1] rfl) hf
  · refine lv_aload_n hx hb dX12_goesOn_318 rfl (lv_at hl 0 rfl) ?_
    refine lv_iconst (v := mI 1) hx hb dX12_goesOn_319 rfl ?_
    refine lv_aload_n hx hb dX12_goesOn_320 rfl (lv_at hl 0 rfl) ?_
    refine r_geti X hw sh_86 fd_12_4 rfl lf_X12_23 dX12_goesOn_321 ?_
    refine r_cvv (rest := []) [.int (mI 1), .int (mI (σ 86 4))] X hw (fun ra σa h => c_X12_blame l D cy ad bs F 1 (σ 86 4) σ ra σa  h) sh_86 rfl (by decide) rfl km_X12_blame kv_X12_blame lm_X12_242 dX12_goesOn_324 hl.1 rfl rfl (Nat.le_of_ble_eq_true rfl) ⟨by decide, by decide⟩ ⟨Nat.zero_le _, Nat.zero_le _⟩ hf (fun r849 σ850 _ hf H locs hw => ?_)
    exact w_X12_goesOn_b327 X hw (lv_sub hl [0, 1] rfl) hf
def g_X12_goesOn_b285 (F : Nat)  (x1 x2 x3 : Int) (σ : mMem) : mRs := if mw x3 = 0 then (g_X12_goesOn_b400 F x1 x2 x3 σ) else (mob (g_X12_isWord F 6385252 σ) (fun r327 σ328 => if ¬ mw r327 = 0 then (g_X12_goesOn_b309 F x1 σ328) else (mob (g_X12_isWord F 28530 σ328) (fun r329 σ330 => if mw r329 = 0 then (g_X12_goesOn_b400 F x1 x2 x3 σ330) else (g_X12_goesOn_b309 F x1 σ330)))))
set_option maxRecDepth 100000 in
set_option maxHeartbeats 4000000 in
theorem w_X12_goesOn_b285 {p : Program} {l : Launch} {e : Env} {s : State} {m : MethodId} {args : Array Value} {below : List Frame} {meth : Method} {c : Code} {D : va_G} {cy : Nat → ClassId} {ad : Nat → Nat} {bs : Nat} {F : Nat}  (X : mCx p m c cX12_goesOn 5 s args RX12 meth D cy (some .boolean))  {r : Int} {σ' : mMem}   {x1 x2 x3 : Int} {σ : mMem} {H : Heap} {locs : List Loc} {ls : Array Slot} (hw : mWd D cy ad bs true mN σ s.heap H locs) (hl : lv_has ls 5 [(0, .ref (ad 86)), (1, .int (mI x1)), (2, .int (mI x2)), (3, .int (mI x3))]) (hf : g_X12_goesOn_b285 F x1 x2 x3 σ = some (r, σ')) : mGi p l e 3 s m args below meth c D cy ad bs r σ' H locs (F0 m 285 ls []) := by
  obtain ⟨⟨hx, hb, -, -, -⟩, -⟩ := id X
  unfold g_X12_goesOn_b285 at hf
  refine lv_iload_n hx hb dX12_goesOn_285 rfl (lv_at hl 3 rfl) ?_
  refine r_if_eq (tgt := 400) X dX12_goesOn_286 (by decide) hf (fun hc hf => ?_) (fun hc hf => ?_)
  · exact w_X12_goesOn_b400 X hw (lv_sub hl [0, 1, 2, 3] rfl) hf
  · refine lv_aload_n hx hb dX12_goesOn_289 rfl (lv_at hl 0 rfl) ?_
    refine r_ldc2 (z := 6385252) (by decide) X lc_X12_308 dX12_goesOn_290 ?_
    refine r_cvi (rest := []) [.long (mL 6385252)] X hw (fun ra σa h => c_X12_isWord l D cy ad bs F 6385252 σ ra σa  h) sh_86 rfl (by decide) rfl km_X12_isWord kv_X12_isWord lm_X12_334 dX12_goesOn_293 hl.1 rfl rfl (Nat.le_of_ble_eq_true rfl) ⟨by decide, by decide⟩ ⟨Nat.zero_le _, Nat.zero_le _⟩ hf (fun r327 σ328 _ hf H locs hw => ?_)
    refine r_if_ne (tgt := 309) X dX12_goesOn_296 (by decide) hf (fun hc hf => ?_) (fun hc hf => ?_)
    · exact w_X12_goesOn_b309 X hw (lv_sub hl [0, 1] rfl) hf
    · refine lv_aload_n hx hb dX12_goesOn_299 rfl (lv_at hl 0 rfl) ?_
      refine r_ldc2 (z := 28530) (by decide) X lc_X12_306 dX12_goesOn_300 ?_
      refine r_cvi (rest := []) [.long (mL 28530)] X hw (fun ra σa h => c_X12_isWord l D cy ad bs F 28530 σ328 ra σa  h) sh_86 rfl (by decide) rfl km_X12_isWord kv_X12_isWord lm_X12_334 dX12_goesOn_303 hl.1 rfl rfl (Nat.le_of_ble_eq_true rfl) ⟨by decide, by decide⟩ ⟨Nat.zero_le _, Nat.zero_le _⟩ hf (fun r329 σ330 _ hf H locs hw => ?_)
      refine r_if_eq (tgt := 400) X dX12_goesOn_306 (by decide) hf (fun hc hf => ?_) (fun hc hf => ?_)
      · exact w_X12_goesOn_b400 X hw (lv_sub hl [0, 1, 2, 3] rfl) hf
      · exact w_X12_goesOn_b309 X hw (lv_sub hl [0, 1] rfl) hf
def g_X12_goesOn_b264 (F : Nat)  (x1 t0 : Int) (σ : mMem) : mRs := mob (g_X12_holdsBack F t0 σ) (fun r951 σ952 => if 0 ≤ mw x1 ∧ mw x1 < (20 : Int) then mlm (mup σ952 104 (mw x1).toNat 1) (fun σ953 => mob (g_X12_ahead F σ953) (fun r954 σ955 => if mw 0 = 0 ∨ mw 0 = 1 then mlm (mup σ955 86 41 0) (fun σ956 => if mw 1 = 0 ∨ mw 1 = 1 then some (1, σ956) else none) else none)) else none)
set_option maxRecDepth 100000 in
set_option maxHeartbeats 4000000 in
theorem w_X12_goesOn_b264 {p : Program} {l : Launch} {e : Env} {s : State} {m : MethodId} {args : Array Value} {below : List Frame} {meth : Method} {c : Code} {D : va_G} {cy : Nat → ClassId} {ad : Nat → Nat} {bs : Nat} {F : Nat}  (X : mCx p m c cX12_goesOn 5 s args RX12 meth D cy (some .boolean))  {r : Int} {σ' : mMem}   {x1 t0 : Int} {σ : mMem} {H : Heap} {locs : List Loc} {ls : Array Slot} (hw : mWd D cy ad bs true mN σ s.heap H locs) (hl : lv_has ls 5 [(0, .ref (ad 86)), (1, .int (mI x1))]) (hf : g_X12_goesOn_b264 F x1 t0 σ = some (r, σ')) : mGi p l e 3 s m args below meth c D cy ad bs r σ' H locs (F0 m 264 ls [.int (mI t0), .ref (ad 86)]) := by
  obtain ⟨⟨hx, hb, -, -, -⟩, -⟩ := id X
  unfold g_X12_goesOn_b264 at hf
  refine r_cvv (rest := []) [.int (mI t0)] X hw (fun ra σa h => c_X12_holdsBack l D cy ad bs F t0 σ ra σa  h) sh_86 rfl (by decide) rfl km_X12_holdsBack kv_X12_holdsBack lm_X12_338 dX12_goesOn_264 hl.1 rfl rfl (Nat.le_of_ble_eq_true rfl) ⟨by decide, by decide⟩ ⟨Nat.zero_le _, Nat.zero_le _⟩ hf (fun r951 σ952 _ hf H locs hw => ?_)
  refine lv_aload_n hx hb dX12_goesOn_267 rfl (lv_at hl 0 rfl) ?_
  refine r_getr 104 X hw sh_86 fd_12_33 rfl rfl lf_X12_113 dX12_goesOn_268 ?_
  refine lv_iload_n hx hb dX12_goesOn_271 rfl (lv_at hl 1 rfl) ?_
  refine lv_iconst (v := mI 1) hx hb dX12_goesOn_272 rfl ?_
  refine r_iast (20 : Int) rfl X hw sh_104 dX12_goesOn_273 hf (fun hf H locs hw => ?_)
  refine r_mem hf hw (fun σ953 hw hf => ?_)
  refine lv_aload_n hx hb dX12_goesOn_274 rfl (lv_at hl 0 rfl) ?_
  refine r_cvv (rest := []) [] X hw (fun ra σa h => c_X12_ahead l D cy ad bs F σ953 ra σa  h) sh_86 rfl (by decide) rfl km_X12_ahead kv_X12_ahead lm_X12_259 dX12_goesOn_275 hl.1 rfl rfl (Nat.le_of_ble_eq_true rfl) ⟨by decide, by decide⟩ ⟨Nat.zero_le _, Nat.zero_le _⟩ hf (fun r954 σ955 _ hf H locs hw => ?_)
  refine lv_aload_n hx hb dX12_goesOn_278 rfl (lv_at hl 0 rfl) ?_
  refine lv_iconst (v := mI 0) hx hb dX12_goesOn_279 rfl ?_
  refine r_putz X hw sh_86 fd_12_41 fp_12_41 rfl rfl lf_X12_138 dX12_goesOn_280 hf (fun hf H locs hw => ?_)
  refine r_mem hf hw (fun σ956 hw hf => ?_)
  refine lv_iconst (v := mI 1) hx hb dX12_goesOn_283 rfl ?_
  exact r_zret X hw dX12_goesOn_284 hf
def g_X12_goesOn_b228 (F : Nat)  (x1 : Int) (σ : mMem) : mRs := mob (g_X12_joins F 5 σ) (fun r431 σ432 => mob (g_X12_isSign F 60 σ432) (fun r433 σ434 => if mw r433 = 0 then (mob (g_X12_isSign F 62 σ434) (fun r435 σ436 => if mw r435 = 0 then (g_X12_goesOn_b264 F x1 40 σ436) else (g_X12_goesOn_b264 F x1 39 σ436))) else (g_X12_goesOn_b264 F x1 38 σ434)))
set_option maxRecDepth 100000 in
set_option maxHeartbeats 4000000 in
theorem w_X12_goesOn_b228 {p : Program} {l : Launch} {e : Env} {s : State} {m : MethodId} {args : Array Value} {below : List Frame} {meth : Method} {c : Code} {D : va_G} {cy : Nat → ClassId} {ad : Nat → Nat} {bs : Nat} {F : Nat}  (X : mCx p m c cX12_goesOn 5 s args RX12 meth D cy (some .boolean))  {r : Int} {σ' : mMem}   {x1 : Int} {σ : mMem} {H : Heap} {locs : List Loc} {ls : Array Slot} (hw : mWd D cy ad bs true mN σ s.heap H locs) (hl : lv_has ls 5 [(0, .ref (ad 86)), (1, .int (mI x1))]) (hf : g_X12_goesOn_b228 F x1 σ = some (r, σ')) : mGi p l e 3 s m args below meth c D cy ad bs r σ' H locs (F0 m 228 ls []) := by
  obtain ⟨⟨hx, hb, -, -, -⟩, -⟩ := id X
  unfold g_X12_goesOn_b228 at hf
  refine lv_aload_n hx hb dX12_goesOn_228 rfl (lv_at hl 0 rfl) ?_
  refine lv_iconst (v := mI 5) hx hb dX12_goesOn_229 rfl ?_
  refine r_cvv (rest := []) [.int (mI 5)] X hw (fun ra σa h => c_X12_joins l D cy ad bs F 5 σ ra σa  h) sh_86 rfl (by decide) rfl km_X12_joins kv_X12_joins lm_X12_344 dX12_goesOn_230 hl.1 rfl rfl (Nat.le_of_ble_eq_true rfl) ⟨by decide, by decide⟩ ⟨Nat.zero_le _, Nat.zero_le _⟩ hf (fun r431 σ432 _ hf H locs hw => ?_)
  refine lv_aload_n hx hb dX12_goesOn_233 rfl (lv_at hl 0 rfl) ?_
  refine lv_aload_n hx hb dX12_goesOn_234 rfl (lv_at hl 0 rfl) ?_
  refine lv_bipush (v := mI 60) hx hb dX12_goesOn_235 (by decide) ?_
  refine r_cvi (rest := [.ref (ad 86)]) [.int (mI 60)] X hw (fun ra σa h => c_X12_isSign l D cy ad bs F 60 σ432 ra σa  h) sh_86 rfl (by decide) rfl km_X12_isSign kv_X12_isSign lm_X12_256 dX12_goesOn_237 hl.1 rfl rfl (Nat.le_of_ble_eq_true rfl) ⟨by decide, by decide⟩ ⟨Nat.zero_le _, Nat.zero_le _⟩ hf (fun r433 σ434 _ hf H locs hw => ?_)
  refine r_if_eq (tgt := 248) X dX12_goesOn_240 (by decide) hf (fun hc hf => ?_) (fun hc hf => ?_)
  · refine lv_aload_n hx hb dX12_goesOn_248 rfl (lv_at hl 0 rfl) ?_
    refine lv_bipush (v := mI 62) hx hb dX12_goesOn_249 (by decide) ?_
    refine r_cvi (rest := [.ref (ad 86)]) [.int (mI 62)] X hw (fun ra σa h => c_X12_isSign l D cy ad bs F 62 σ434 ra σa  h) sh_86 rfl (by decide) rfl km_X12_isSign kv_X12_isSign lm_X12_256 dX12_goesOn_251 hl.1 rfl rfl (Nat.le_of_ble_eq_true rfl) ⟨by decide, by decide⟩ ⟨Nat.zero_le _, Nat.zero_le _⟩ hf (fun r435 σ436 _ hf H locs hw => ?_)
    refine r_if_eq (tgt := 262) X dX12_goesOn_254 (by decide) hf (fun hc hf => ?_) (fun hc hf => ?_)
    · refine lv_bipush (v := mI 40) hx hb dX12_goesOn_262 (by decide) ?_
      exact w_X12_goesOn_b264 X hw (lv_sub hl [0, 1] rfl) hf
    · refine lv_bipush (v := mI 39) hx hb dX12_goesOn_257 (by decide) ?_
      refine lv_goto (tgt := 264) hx hb dX12_goesOn_259 (by decide) ?_
      exact w_X12_goesOn_b264 X hw (lv_sub hl [0, 1] rfl) hf
  · refine lv_bipush (v := mI 38) hx hb dX12_goesOn_243 (by decide) ?_
    refine lv_goto (tgt := 264) hx hb dX12_goesOn_245 (by decide) ?_
    exact w_X12_goesOn_b264 X hw (lv_sub hl [0, 1] rfl) hf
def g_X12_goesOn_b188 (F : Nat)  (x1 x2 x3 : Int) (σ : mMem) : mRs := if mw x3 = 0 then (g_X12_goesOn_b285 F x1 x2 x3 σ) else (if 0 ≤ mw x1 ∧ mw x1 < (20 : Int) then if ¬ mw (σ 104 (mw x1).toNat) = 0 then (g_X12_goesOn_b285 F x1 x2 x3 σ) else (mob (g_X12_isSign F 60 σ) (fun r117 σ118 => if ¬ mw r117 = 0 then (g_X12_goesOn_b228 F x1 σ118) else (mob (g_X12_isSign F 62 σ118) (fun r119 σ120 => if ¬ mw r119 = 0 then (g_X12_goesOn_b228 F x1 σ120) else (mob (g_X12_isSign F 61 σ120) (fun r121 σ122 => if mw r121 = 0 then (g_X12_goesOn_b285 F x1 x2 x3 σ122) else (g_X12_goesOn_b228 F x1 σ122))))))) else none)
set_option maxRecDepth 100000 in
set_option maxHeartbeats 4000000 in
theorem w_X12_goesOn_b188 {p : Program} {l : Launch} {e : Env} {s : State} {m : MethodId} {args : Array Value} {below : List Frame} {meth : Method} {c : Code} {D : va_G} {cy : Nat → ClassId} {ad : Nat → Nat} {bs : Nat} {F : Nat}  (X : mCx p m c cX12_goesOn 5 s args RX12 meth D cy (some .boolean))  {r : Int} {σ' : mMem}   {x1 x2 x3 : Int} {σ : mMem} {H : Heap} {locs : List Loc} {ls : Array Slot} (hw : mWd D cy ad bs true mN σ s.heap H locs) (hl : lv_has ls 5 [(0, .ref (ad 86)), (1, .int (mI x1)), (2, .int (mI x2)), (3, .int (mI x3))]) (hf : g_X12_goesOn_b188 F x1 x2 x3 σ = some (r, σ')) : mGi p l e 3 s m args below meth c D cy ad bs r σ' H locs (F0 m 188 ls []) := by
  obtain ⟨⟨hx, hb, -, -, -⟩, -⟩ := id X
  unfold g_X12_goesOn_b188 at hf
  refine lv_iload_n hx hb dX12_goesOn_188 rfl (lv_at hl 3 rfl) ?_
  refine r_if_eq (tgt := 285) X dX12_goesOn_189 (by decide) hf (fun hc hf => ?_) (fun hc hf => ?_)
  · exact w_X12_goesOn_b285 X hw (lv_sub hl [0, 1, 2, 3] rfl) hf
  · refine lv_aload_n hx hb dX12_goesOn_192 rfl (lv_at hl 0 rfl) ?_
    refine r_getr 104 X hw sh_86 fd_12_33 rfl rfl lf_X12_113 dX12_goesOn_193 ?_
    refine lv_iload_n hx hb dX12_goesOn_196 rfl (lv_at hl 1 rfl) ?_
    refine r_iald (20 : Int) rfl X hw sh_104 dX12_goesOn_197 hf (fun hf => ?_)
    refine r_if_ne (tgt := 285) X dX12_goesOn_198 (by decide) hf (fun hc hf => ?_) (fun hc hf => ?_)
    · exact w_X12_goesOn_b285 X hw (lv_sub hl [0, 1, 2, 3] rfl) hf
    · refine lv_aload_n hx hb dX12_goesOn_201 rfl (lv_at hl 0 rfl) ?_
      refine lv_bipush (v := mI 60) hx hb dX12_goesOn_202 (by decide) ?_
      refine r_cvi (rest := []) [.int (mI 60)] X hw (fun ra σa h => c_X12_isSign l D cy ad bs F 60 σ ra σa  h) sh_86 rfl (by decide) rfl km_X12_isSign kv_X12_isSign lm_X12_256 dX12_goesOn_204 hl.1 rfl rfl (Nat.le_of_ble_eq_true rfl) ⟨by decide, by decide⟩ ⟨Nat.zero_le _, Nat.zero_le _⟩ hf (fun r117 σ118 _ hf H locs hw => ?_)
      refine r_if_ne (tgt := 228) X dX12_goesOn_207 (by decide) hf (fun hc hf => ?_) (fun hc hf => ?_)
      · exact w_X12_goesOn_b228 X hw (lv_sub hl [0, 1] rfl) hf
      · refine lv_aload_n hx hb dX12_goesOn_210 rfl (lv_at hl 0 rfl) ?_
        refine lv_bipush (v := mI 62) hx hb dX12_goesOn_211 (by decide) ?_
        refine r_cvi (rest := []) [.int (mI 62)] X hw (fun ra σa h => c_X12_isSign l D cy ad bs F 62 σ118 ra σa  h) sh_86 rfl (by decide) rfl km_X12_isSign kv_X12_isSign lm_X12_256 dX12_goesOn_213 hl.1 rfl rfl (Nat.le_of_ble_eq_true rfl) ⟨by decide, by decide⟩ ⟨Nat.zero_le _, Nat.zero_le _⟩ hf (fun r119 σ120 _ hf H locs hw => ?_)
        refine r_if_ne (tgt := 228) X dX12_goesOn_216 (by decide) hf (fun hc hf => ?_) (fun hc hf => ?_)
        · exact w_X12_goesOn_b228 X hw (lv_sub hl [0, 1] rfl) hf
        · refine lv_aload_n hx hb dX12_goesOn_219 rfl (lv_at hl 0 rfl) ?_
          refine lv_bipush (v := mI 61) hx hb dX12_goesOn_220 (by decide) ?_
          refine r_cvi (rest := []) [.int (mI 61)] X hw (fun ra σa h => c_X12_isSign l D cy ad bs F 61 σ120 ra σa  h) sh_86 rfl (by decide) rfl km_X12_isSign kv_X12_isSign lm_X12_256 dX12_goesOn_222 hl.1 rfl rfl (Nat.le_of_ble_eq_true rfl) ⟨by decide, by decide⟩ ⟨Nat.zero_le _, Nat.zero_le _⟩ hf (fun r121 σ122 _ hf H locs hw => ?_)
          refine r_if_eq (tgt := 285) X dX12_goesOn_225 (by decide) hf (fun hc hf => ?_) (fun hc hf => ?_)
          · exact w_X12_goesOn_b285 X hw (lv_sub hl [0, 1, 2, 3] rfl) hf
          · exact w_X12_goesOn_b228 X hw (lv_sub hl [0, 1] rfl) hf
def g_X12_goesOn_b174 (F : Nat)  (t0 : Int) (σ : mMem) : mRs := mob (g_X12_holdsBack F t0 σ) (fun r1057 σ1058 => mob (g_X12_ahead F σ1058) (fun r1059 σ1060 => if mw 0 = 0 ∨ mw 0 = 1 then mlm (mup σ1060 86 41 0) (fun σ1061 => if mw 1 = 0 ∨ mw 1 = 1 then some (1, σ1061) else none) else none))
set_option maxRecDepth 100000 in
set_option maxHeartbeats 4000000 in
theorem w_X12_goesOn_b174 {p : Program} {l : Launch} {e : Env} {s : State} {m : MethodId} {args : Array Value} {below : List Frame} {meth : Method} {c : Code} {D : va_G} {cy : Nat → ClassId} {ad : Nat → Nat} {bs : Nat} {F : Nat}  (X : mCx p m c cX12_goesOn 5 s args RX12 meth D cy (some .boolean))  {r : Int} {σ' : mMem}   {t0 : Int} {σ : mMem} {H : Heap} {locs : List Loc} {ls : Array Slot} (hw : mWd D cy ad bs true mN σ s.heap H locs) (hl : lv_has ls 5 [(0, .ref (ad 86))]) (hf : g_X12_goesOn_b174 F t0 σ = some (r, σ')) : mGi p l e 3 s m args below meth c D cy ad bs r σ' H locs (F0 m 174 ls [.int (mI t0), .ref (ad 86)]) := by
  obtain ⟨⟨hx, hb, -, -, -⟩, -⟩ := id X
  unfold g_X12_goesOn_b174 at hf
  refine r_cvv (rest := []) [.int (mI t0)] X hw (fun ra σa h => c_X12_holdsBack l D cy ad bs F t0 σ ra σa  h) sh_86 rfl (by decide) rfl km_X12_holdsBack kv_X12_holdsBack lm_X12_338 dX12_goesOn_174 hl.1 rfl rfl (Nat.le_of_ble_eq_true rfl) ⟨by decide, by decide⟩ ⟨Nat.zero_le _, Nat.zero_le _⟩ hf (fun r1057 σ1058 _ hf H locs hw => ?_)
  refine lv_aload_n hx hb dX12_goesOn_177 rfl (lv_at hl 0 rfl) ?_
  refine r_cvv (rest := []) [] X hw (fun ra σa h => c_X12_ahead l D cy ad bs F σ1058 ra σa  h) sh_86 rfl (by decide) rfl km_X12_ahead kv_X12_ahead lm_X12_259 dX12_goesOn_178 hl.1 rfl rfl (Nat.le_of_ble_eq_true rfl) ⟨by decide, by decide⟩ ⟨Nat.zero_le _, Nat.zero_le _⟩ hf (fun r1059 σ1060 _ hf H locs hw => ?_)
  refine lv_aload_n hx hb dX12_goesOn_181 rfl (lv_at hl 0 rfl) ?_
  refine lv_iconst (v := mI 0) hx hb dX12_goesOn_182 rfl ?_
  refine r_putz X hw sh_86 fd_12_41 fp_12_41 rfl rfl lf_X12_138 dX12_goesOn_183 hf (fun hf H locs hw => ?_)
  refine r_mem hf hw (fun σ1061 hw hf => ?_)
  refine lv_iconst (v := mI 1) hx hb dX12_goesOn_186 rfl ?_
  exact r_zret X hw dX12_goesOn_187 hf
def g_X12_goesOn_b112 (F : Nat)  (t0 : Int) (σ : mMem) : mRs := mob (g_X12_joins F t0 σ) (fun r537 σ538 => mob (g_X12_isSign F 43 σ538) (fun r539 σ540 => if mw r539 = 0 then (mob (g_X12_isSign F 45 σ540) (fun r541 σ542 => if mw r541 = 0 then (mob (g_X12_isSign F 42 σ542) (fun r543 σ544 => if mw r543 = 0 then (mob (g_X12_isSign F 47 σ544) (fun r545 σ546 => if mw r545 = 0 then (g_X12_goesOn_b174 F 35 σ546) else (g_X12_goesOn_b174 F 34 σ546))) else (g_X12_goesOn_b174 F 33 σ544))) else (g_X12_goesOn_b174 F 32 σ542))) else (g_X12_goesOn_b174 F 31 σ540)))
set_option maxRecDepth 100000 in
set_option maxHeartbeats 4000000 in
theorem w_X12_goesOn_b112 {p : Program} {l : Launch} {e : Env} {s : State} {m : MethodId} {args : Array Value} {below : List Frame} {meth : Method} {c : Code} {D : va_G} {cy : Nat → ClassId} {ad : Nat → Nat} {bs : Nat} {F : Nat}  (X : mCx p m c cX12_goesOn 5 s args RX12 meth D cy (some .boolean))  {r : Int} {σ' : mMem}   {t0 : Int} {σ : mMem} {H : Heap} {locs : List Loc} {ls : Array Slot} (hw : mWd D cy ad bs true mN σ s.heap H locs) (hl : lv_has ls 5 [(0, .ref (ad 86))]) (hf : g_X12_goesOn_b112 F t0 σ = some (r, σ')) : mGi p l e 3 s m args below meth c D cy ad bs r σ' H locs (F0 m 112 ls [.int (mI t0), .ref (ad 86)]) := by
  obtain ⟨⟨hx, hb, -, -, -⟩, -⟩ := id X
  unfold g_X12_goesOn_b112 at hf
  refine r_cvv (rest := []) [.int (mI t0)] X hw (fun ra σa h => c_X12_joins l D cy ad bs F t0 σ ra σa  h) sh_86 rfl (by decide) rfl km_X12_joins kv_X12_joins lm_X12_344 dX12_goesOn_112 hl.1 rfl rfl (Nat.le_of_ble_eq_true rfl) ⟨by decide, by decide⟩ ⟨Nat.zero_le _, Nat.zero_le _⟩ hf (fun r537 σ538 _ hf H locs hw => ?_)
  refine lv_aload_n hx hb dX12_goesOn_115 rfl (lv_at hl 0 rfl) ?_
  refine lv_aload_n hx hb dX12_goesOn_116 rfl (lv_at hl 0 rfl) ?_
  refine lv_bipush (v := mI 43) hx hb dX12_goesOn_117 (by decide) ?_
  refine r_cvi (rest := [.ref (ad 86)]) [.int (mI 43)] X hw (fun ra σa h => c_X12_isSign l D cy ad bs F 43 σ538 ra σa  h) sh_86 rfl (by decide) rfl km_X12_isSign kv_X12_isSign lm_X12_256 dX12_goesOn_119 hl.1 rfl rfl (Nat.le_of_ble_eq_true rfl) ⟨by decide, by decide⟩ ⟨Nat.zero_le _, Nat.zero_le _⟩ hf (fun r539 σ540 _ hf H locs hw => ?_)
  refine r_if_eq (tgt := 130) X dX12_goesOn_122 (by decide) hf (fun hc hf => ?_) (fun hc hf => ?_)
  · refine lv_aload_n hx hb dX12_goesOn_130 rfl (lv_at hl 0 rfl) ?_
    refine lv_bipush (v := mI 45) hx hb dX12_goesOn_131 (by decide) ?_
    refine r_cvi (rest := [.ref (ad 86)]) [.int (mI 45)] X hw (fun ra σa h => c_X12_isSign l D cy ad bs F 45 σ540 ra σa  h) sh_86 rfl (by decide) rfl km_X12_isSign kv_X12_isSign lm_X12_256 dX12_goesOn_133 hl.1 rfl rfl (Nat.le_of_ble_eq_true rfl) ⟨by decide, by decide⟩ ⟨Nat.zero_le _, Nat.zero_le _⟩ hf (fun r541 σ542 _ hf H locs hw => ?_)
    refine r_if_eq (tgt := 144) X dX12_goesOn_136 (by decide) hf (fun hc hf => ?_) (fun hc hf => ?_)
    · refine lv_aload_n hx hb dX12_goesOn_144 rfl (lv_at hl 0 rfl) ?_
      refine lv_bipush (v := mI 42) hx hb dX12_goesOn_145 (by decide) ?_
      refine r_cvi (rest := [.ref (ad 86)]) [.int (mI 42)] X hw (fun ra σa h => c_X12_isSign l D cy ad bs F 42 σ542 ra σa  h) sh_86 rfl (by decide) rfl km_X12_isSign kv_X12_isSign lm_X12_256 dX12_goesOn_147 hl.1 rfl rfl (Nat.le_of_ble_eq_true rfl) ⟨by decide, by decide⟩ ⟨Nat.zero_le _, Nat.zero_le _⟩ hf (fun r543 σ544 _ hf H locs hw => ?_)
      refine r_if_eq (tgt := 158) X dX12_goesOn_150 (by decide) hf (fun hc hf => ?_) (fun hc hf => ?_)
      · refine lv_aload_n hx hb dX12_goesOn_158 rfl (lv_at hl 0 rfl) ?_
        refine lv_bipush (v := mI 47) hx hb dX12_goesOn_159 (by decide) ?_
        refine r_cvi (rest := [.ref (ad 86)]) [.int (mI 47)] X hw (fun ra σa h => c_X12_isSign l D cy ad bs F 47 σ544 ra σa  h) sh_86 rfl (by decide) rfl km_X12_isSign kv_X12_isSign lm_X12_256 dX12_goesOn_161 hl.1 rfl rfl (Nat.le_of_ble_eq_true rfl) ⟨by decide, by decide⟩ ⟨Nat.zero_le _, Nat.zero_le _⟩ hf (fun r545 σ546 _ hf H locs hw => ?_)
        refine r_if_eq (tgt := 172) X dX12_goesOn_164 (by decide) hf (fun hc hf => ?_) (fun hc hf => ?_)
        · refine lv_bipush (v := mI 35) hx hb dX12_goesOn_172 (by decide) ?_
          exact w_X12_goesOn_b174 X hw (lv_sub hl [0] rfl) hf
        · refine lv_bipush (v := mI 34) hx hb dX12_goesOn_167 (by decide) ?_
          refine lv_goto (tgt := 174) hx hb dX12_goesOn_169 (by decide) ?_
          exact w_X12_goesOn_b174 X hw (lv_sub hl [0] rfl) hf
      · refine lv_bipush (v := mI 33) hx hb dX12_goesOn_153 (by decide) ?_
        refine lv_goto (tgt := 174) hx hb dX12_goesOn_155 (by decide) ?_
        exact w_X12_goesOn_b174 X hw (lv_sub hl [0] rfl) hf
    · refine lv_bipush (v := mI 32) hx hb dX12_goesOn_139 (by decide) ?_
      refine lv_goto (tgt := 174) hx hb dX12_goesOn_141 (by decide) ?_
      exact w_X12_goesOn_b174 X hw (lv_sub hl [0] rfl) hf
  · refine lv_bipush (v := mI 31) hx hb dX12_goesOn_125 (by decide) ?_
    refine lv_goto (tgt := 174) hx hb dX12_goesOn_127 (by decide) ?_
    exact w_X12_goesOn_b174 X hw (lv_sub hl [0] rfl) hf
def g_X12_goesOn_b106 (F : Nat)  (σ : mMem) : mRs := g_X12_goesOn_b112 F 5 σ
set_option maxRecDepth 100000 in
set_option maxHeartbeats 4000000 in
theorem w_X12_goesOn_b106 {p : Program} {l : Launch} {e : Env} {s : State} {m : MethodId} {args : Array Value} {below : List Frame} {meth : Method} {c : Code} {D : va_G} {cy : Nat → ClassId} {ad : Nat → Nat} {bs : Nat} {F : Nat}  (X : mCx p m c cX12_goesOn 5 s args RX12 meth D cy (some .boolean))  {r : Int} {σ' : mMem}    {σ : mMem} {H : Heap} {locs : List Loc} {ls : Array Slot} (hw : mWd D cy ad bs true mN σ s.heap H locs) (hl : lv_has ls 5 [(0, .ref (ad 86))]) (hf : g_X12_goesOn_b106 F  σ = some (r, σ')) : mGi p l e 3 s m args below meth c D cy ad bs r σ' H locs (F0 m 106 ls [.ref (ad 86)]) := by
  obtain ⟨⟨hx, hb, -, -, -⟩, -⟩ := id X
  unfold g_X12_goesOn_b106 at hf
  refine lv_iconst (v := mI 5) hx hb dX12_goesOn_106 rfl ?_
  refine lv_goto (tgt := 112) hx hb dX12_goesOn_107 (by decide) ?_
  exact w_X12_goesOn_b112 X hw (lv_sub hl [0] rfl) hf
def g_X12_goesOn_b87 (F : Nat)  (σ : mMem) : mRs := mob (g_X12_isSign F 43 σ) (fun r223 σ224 => if ¬ mw r223 = 0 then (g_X12_goesOn_b106 F σ224) else (mob (g_X12_isSign F 45 σ224) (fun r225 σ226 => if mw r225 = 0 then (g_X12_goesOn_b112 F 6 σ226) else (g_X12_goesOn_b106 F σ226))))
set_option maxRecDepth 100000 in
set_option maxHeartbeats 4000000 in
theorem w_X12_goesOn_b87 {p : Program} {l : Launch} {e : Env} {s : State} {m : MethodId} {args : Array Value} {below : List Frame} {meth : Method} {c : Code} {D : va_G} {cy : Nat → ClassId} {ad : Nat → Nat} {bs : Nat} {F : Nat}  (X : mCx p m c cX12_goesOn 5 s args RX12 meth D cy (some .boolean))  {r : Int} {σ' : mMem}    {σ : mMem} {H : Heap} {locs : List Loc} {ls : Array Slot} (hw : mWd D cy ad bs true mN σ s.heap H locs) (hl : lv_has ls 5 [(0, .ref (ad 86))]) (hf : g_X12_goesOn_b87 F  σ = some (r, σ')) : mGi p l e 3 s m args below meth c D cy ad bs r σ' H locs (F0 m 87 ls []) := by
  obtain ⟨⟨hx, hb, -, -, -⟩, -⟩ := id X
  unfold g_X12_goesOn_b87 at hf
  refine lv_aload_n hx hb dX12_goesOn_87 rfl (lv_at hl 0 rfl) ?_
  refine lv_aload_n hx hb dX12_goesOn_88 rfl (lv_at hl 0 rfl) ?_
  refine lv_bipush (v := mI 43) hx hb dX12_goesOn_89 (by decide) ?_
  refine r_cvi (rest := [.ref (ad 86)]) [.int (mI 43)] X hw (fun ra σa h => c_X12_isSign l D cy ad bs F 43 σ ra σa  h) sh_86 rfl (by decide) rfl km_X12_isSign kv_X12_isSign lm_X12_256 dX12_goesOn_91 hl.1 rfl rfl (Nat.le_of_ble_eq_true rfl) ⟨by decide, by decide⟩ ⟨Nat.zero_le _, Nat.zero_le _⟩ hf (fun r223 σ224 _ hf H locs hw => ?_)
  refine r_if_ne (tgt := 106) X dX12_goesOn_94 (by decide) hf (fun hc hf => ?_) (fun hc hf => ?_)
  · exact w_X12_goesOn_b106 X hw (lv_sub hl [0] rfl) hf
  · refine lv_aload_n hx hb dX12_goesOn_97 rfl (lv_at hl 0 rfl) ?_
    refine lv_bipush (v := mI 45) hx hb dX12_goesOn_98 (by decide) ?_
    refine r_cvi (rest := [.ref (ad 86)]) [.int (mI 45)] X hw (fun ra σa h => c_X12_isSign l D cy ad bs F 45 σ224 ra σa  h) sh_86 rfl (by decide) rfl km_X12_isSign kv_X12_isSign lm_X12_256 dX12_goesOn_100 hl.1 rfl rfl (Nat.le_of_ble_eq_true rfl) ⟨by decide, by decide⟩ ⟨Nat.zero_le _, Nat.zero_le _⟩ hf (fun r225 σ226 _ hf H locs hw => ?_)
    refine r_if_eq (tgt := 110) X dX12_goesOn_103 (by decide) hf (fun hc hf => ?_) (fun hc hf => ?_)
    · refine lv_bipush (v := mI 6) hx hb dX12_goesOn_110 (by decide) ?_
      exact w_X12_goesOn_b112 X hw (lv_sub hl [0] rfl) hf
    · exact w_X12_goesOn_b106 X hw (lv_sub hl [0] rfl) hf
def g_X12_goesOn (F : Nat) (σ : mMem) : mRs := mob (g_X12_lex F σ) (fun r1 σ2 => if mw (σ2 86 8) ≤ 0 then (mlet ((σ2 86 37) - 1) (fun y3 => if 0 ≤ mw y3 ∧ mw y3 < (20 : Int) then mlet (σ2 103 (mw y3).toNat) (fun y4 => mob (g_X12_isTest F y4 σ2) (fun r5 σ6 => if 0 ≤ mw y3 ∧ mw y3 < (20 : Int) then if mw 2 ≤ mw (σ6 104 (mw y3).toNat) then (g_X12_goesOn_b188 F y3 y4 r5 σ6) else (mob (g_X12_isSign F 43 σ6) (fun r7 σ8 => if ¬ mw r7 = 0 then (g_X12_goesOn_b87 F σ8) else (mob (g_X12_isSign F 45 σ8) (fun r9 σ10 => if ¬ mw r9 = 0 then (g_X12_goesOn_b87 F σ10) else (mob (g_X12_isSign F 42 σ10) (fun r11 σ12 => if ¬ mw r11 = 0 then (g_X12_goesOn_b87 F σ12) else (mob (g_X12_isSign F 47 σ12) (fun r13 σ14 => if ¬ mw r13 = 0 then (g_X12_goesOn_b87 F σ14) else (mob (g_X12_isSign F 37 σ14) (fun r15 σ16 => if mw r15 = 0 then (g_X12_goesOn_b188 F y3 y4 r5 σ16) else (g_X12_goesOn_b87 F σ16))))))))))) else none)) else none)) else (if mw 0 = 0 ∨ mw 0 = 1 then some (0, σ2) else none))
set_option maxRecDepth 100000 in
set_option maxHeartbeats 4000000 in
theorem c_X12_goesOn (l : Launch) (D : va_G) (cy : Nat → ClassId) (ad : Nat → Nat) (bs : Nat) (F : Nat)   (σ : mMem) (r : Int) (σ' : mMem)  (hf : g_X12_goesOn F  σ = some (r, σ')) : mCi l D cy ad bs yX12_goesOn cX12_goesOn 5 (some .boolean) 3 [.ref (ad 86)] σ r σ' := by
  refine mCi.of (lv := [(0, .ref (ad 86))]) km_X12_goesOn.2.2.2.2.2 (Nat.le_of_ble_eq_true rfl) rfl (fun p e s m args below meth c H locs ls X hw hl => ?_)
  obtain ⟨⟨hx, hb, -, -, -⟩, -⟩ := id X
  unfold g_X12_goesOn at hf
  refine lv_aload_n hx hb dX12_goesOn_0 rfl (lv_at hl 0 rfl) ?_
  refine r_cvv (rest := []) [] X hw (fun ra σa h => c_X12_lex l D cy ad bs F σ ra σa  h) sh_86 rfl (by decide) rfl km_X12_lex kv_X12_lex lm_X12_253 dX12_goesOn_1 hl.1 rfl rfl (Nat.le_of_ble_eq_true rfl) ⟨by decide, by decide⟩ ⟨Nat.zero_le _, Nat.zero_le _⟩ hf (fun r1 σ2 _ hf H locs hw => ?_)
  refine lv_aload_n hx hb dX12_goesOn_4 rfl (lv_at hl 0 rfl) ?_
  refine r_geti X hw sh_86 fd_12_8 rfl lf_X12_36 dX12_goesOn_5 ?_
  refine r_if_le (tgt := 13) X dX12_goesOn_8 (by decide) hf (fun hc hf => ?_) (fun hc hf => ?_)
  · refine lv_aload_n hx hb dX12_goesOn_13 rfl (lv_at hl 0 rfl) ?_
    refine r_geti X hw sh_86 fd_12_37 rfl lf_X12_126 dX12_goesOn_14 ?_
    refine lv_iconst (v := mI 1) hx hb dX12_goesOn_17 rfl ?_
    refine r_isub X dX12_goesOn_18 ?_
    refine r_leti hf (fun y3 hf => ?_)
    refine lv_istore_n (lv' := [(1, .int (mI y3)), (0, .ref (ad 86))]) hx hb dX12_goesOn_19 rfl hl (by decide) rfl (fun ls hl => ?_)
    refine lv_aload_n hx hb dX12_goesOn_20 rfl (lv_at hl 1 rfl) ?_
    refine r_getr 103 X hw sh_86 fd_12_32 rfl rfl lf_X12_110 dX12_goesOn_21 ?_
    refine lv_iload_n hx hb dX12_goesOn_24 rfl (lv_at hl 0 rfl) ?_
    refine r_iald (20 : Int) rfl X hw sh_103 dX12_goesOn_25 hf (fun hf => ?_)
    refine r_leti hf (fun y4 hf => ?_)
    refine lv_istore_n (lv' := [(2, .int (mI y4)), (1, .int (mI y3)), (0, .ref (ad 86))]) hx hb dX12_goesOn_26 rfl hl (by decide) rfl (fun ls hl => ?_)
    refine lv_iload_n hx hb dX12_goesOn_27 rfl (lv_at hl 0 rfl) ?_
    refine r_csi (rest := []) [.int (mI y4)] X hw (fun ra σa h => c_X12_isTest l D cy ad bs F y4 σ2 ra σa  h) km_X12_isTest ks_X12_isTest lm_X12_331 dX12_goesOn_28 hl.1 rfl rfl (Nat.le_of_ble_eq_true rfl) ⟨by decide, by decide⟩ ⟨Nat.zero_le _, Nat.zero_le _⟩ hf (fun r5 σ6 _ hf H locs hw => ?_)
    refine lv_istore_n (lv' := [(3, .int (mI r5)), (2, .int (mI y4)), (1, .int (mI y3)), (0, .ref (ad 86))]) hx hb dX12_goesOn_31 rfl hl (by decide) rfl (fun ls hl => ?_)
    refine lv_aload_n hx hb dX12_goesOn_32 rfl (lv_at hl 3 rfl) ?_
    refine r_getr 104 X hw sh_86 fd_12_33 rfl rfl lf_X12_113 dX12_goesOn_33 ?_
    refine lv_iload_n hx hb dX12_goesOn_36 rfl (lv_at hl 2 rfl) ?_
    refine r_iald (20 : Int) rfl X hw sh_104 dX12_goesOn_37 hf (fun hf => ?_)
    refine lv_iconst (v := mI 2) hx hb dX12_goesOn_38 rfl ?_
    refine r_icmp_ge (tgt := 188) X dX12_goesOn_39 (by decide) hf (fun hc hf => ?_) (fun hc hf => ?_)
    · exact w_X12_goesOn_b188 X hw (lv_sub hl [3, 2, 1, 0] rfl) hf
    · refine lv_aload_n hx hb dX12_goesOn_42 rfl (lv_at hl 3 rfl) ?_
      refine lv_bipush (v := mI 43) hx hb dX12_goesOn_43 (by decide) ?_
      refine r_cvi (rest := []) [.int (mI 43)] X hw (fun ra σa h => c_X12_isSign l D cy ad bs F 43 σ6 ra σa  h) sh_86 rfl (by decide) rfl km_X12_isSign kv_X12_isSign lm_X12_256 dX12_goesOn_45 hl.1 rfl rfl (Nat.le_of_ble_eq_true rfl) ⟨by decide, by decide⟩ ⟨Nat.zero_le _, Nat.zero_le _⟩ hf (fun r7 σ8 _ hf H locs hw => ?_)
      refine r_if_ne (tgt := 87) X dX12_goesOn_48 (by decide) hf (fun hc hf => ?_) (fun hc hf => ?_)
      · exact w_X12_goesOn_b87 X hw (lv_sub hl [3] rfl) hf
      · refine lv_aload_n hx hb dX12_goesOn_51 rfl (lv_at hl 3 rfl) ?_
        refine lv_bipush (v := mI 45) hx hb dX12_goesOn_52 (by decide) ?_
        refine r_cvi (rest := []) [.int (mI 45)] X hw (fun ra σa h => c_X12_isSign l D cy ad bs F 45 σ8 ra σa  h) sh_86 rfl (by decide) rfl km_X12_isSign kv_X12_isSign lm_X12_256 dX12_goesOn_54 hl.1 rfl rfl (Nat.le_of_ble_eq_true rfl) ⟨by decide, by decide⟩ ⟨Nat.zero_le _, Nat.zero_le _⟩ hf (fun r9 σ10 _ hf H locs hw => ?_)
        refine r_if_ne (tgt := 87) X dX12_goesOn_57 (by decide) hf (fun hc hf => ?_) (fun hc hf => ?_)
        · exact w_X12_goesOn_b87 X hw (lv_sub hl [3] rfl) hf
        · refine lv_aload_n hx hb dX12_goesOn_60 rfl (lv_at hl 3 rfl) ?_
          refine lv_bipush (v := mI 42) hx hb dX12_goesOn_61 (by decide) ?_
          refine r_cvi (rest := []) [.int (mI 42)] X hw (fun ra σa h => c_X12_isSign l D cy ad bs F 42 σ10 ra σa  h) sh_86 rfl (by decide) rfl km_X12_isSign kv_X12_isSign lm_X12_256 dX12_goesOn_63 hl.1 rfl rfl (Nat.le_of_ble_eq_true rfl) ⟨by decide, by decide⟩ ⟨Nat.zero_le _, Nat.zero_le _⟩ hf (fun r11 σ12 _ hf H locs hw => ?_)
          refine r_if_ne (tgt := 87) X dX12_goesOn_66 (by decide) hf (fun hc hf => ?_) (fun hc hf => ?_)
          · exact w_X12_goesOn_b87 X hw (lv_sub hl [3] rfl) hf
          · refine lv_aload_n hx hb dX12_goesOn_69 rfl (lv_at hl 3 rfl) ?_
            refine lv_bipush (v := mI 47) hx hb dX12_goesOn_70 (by decide) ?_
            refine r_cvi (rest := []) [.int (mI 47)] X hw (fun ra σa h => c_X12_isSign l D cy ad bs F 47 σ12 ra σa  h) sh_86 rfl (by decide) rfl km_X12_isSign kv_X12_isSign lm_X12_256 dX12_goesOn_72 hl.1 rfl rfl (Nat.le_of_ble_eq_true rfl) ⟨by decide, by decide⟩ ⟨Nat.zero_le _, Nat.zero_le _⟩ hf (fun r13 σ14 _ hf H locs hw => ?_)
            refine r_if_ne (tgt := 87) X dX12_goesOn_75 (by decide) hf (fun hc hf => ?_) (fun hc hf => ?_)
            · exact w_X12_goesOn_b87 X hw (lv_sub hl [3] rfl) hf
            · refine lv_aload_n hx hb dX12_goesOn_78 rfl (lv_at hl 3 rfl) ?_
              refine lv_bipush (v := mI 37) hx hb dX12_goesOn_79 (by decide) ?_
              refine r_cvi (rest := []) [.int (mI 37)] X hw (fun ra σa h => c_X12_isSign l D cy ad bs F 37 σ14 ra σa  h) sh_86 rfl (by decide) rfl km_X12_isSign kv_X12_isSign lm_X12_256 dX12_goesOn_81 hl.1 rfl rfl (Nat.le_of_ble_eq_true rfl) ⟨by decide, by decide⟩ ⟨Nat.zero_le _, Nat.zero_le _⟩ hf (fun r15 σ16 _ hf H locs hw => ?_)
              refine r_if_eq (tgt := 188) X dX12_goesOn_84 (by decide) hf (fun hc hf => ?_) (fun hc hf => ?_)
              · exact w_X12_goesOn_b188 X hw (lv_sub hl [3, 2, 1, 0] rfl) hf
              · exact w_X12_goesOn_b87 X hw (lv_sub hl [3] rfl) hf
  · refine lv_iconst (v := mI 0) hx hb dX12_goesOn_11 rfl ?_
    exact r_zret X hw dX12_goesOn_12 hf
