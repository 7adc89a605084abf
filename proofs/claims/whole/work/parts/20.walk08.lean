def g_X11_turn_b33 (F : Nat)  (σ : mMem) : mRs := mob (g_X11_refuse F 3 σ) (fun r110 σ111 => if mw 0 = 0 ∨ mw 0 = 1 then some (0, σ111) else none)
set_option maxRecDepth 100000 in
set_option maxHeartbeats 4000000 in
theorem w_X11_turn_b33 {p : Program} {l : Launch} {e : Env} {s : State} {m : MethodId} {args : Array Value} {below : List Frame} {meth : Method} {c : Code} {D : va_G} {cy : Nat → ClassId} {ad : Nat → Nat} {bs : Nat} {F : Nat}  (X : mCx p m c cX11_turn 3 s args RX11 meth D cy (some .boolean))  {r : Int} {σ' : mMem}    {σ : mMem} {H : Heap} {locs : List Loc} {ls : Array Slot} (hw : mWd D cy ad bs true mN σ s.heap H locs) (hl : lv_has ls 3 [(0, .ref (ad 0))]) (hf : g_X11_turn_b33 F  σ = some (r, σ')) : mGi p l e 3 s m args below meth c D cy ad bs r σ' H locs (F0 m 33 ls []) := by
  obtain ⟨⟨hx, hb, -, -, -⟩, -⟩ := id X
  unfold g_X11_turn_b33 at hf
  refine lv_aload_n hx hb dX11_turn_33 rfl (lv_at hl 0 rfl) ?_
  refine lv_iconst (v := mI 3) hx hb dX11_turn_34 rfl ?_
  refine r_cvi (rest := []) [.int (mI 3)] X hw (fun ra σa h => c_X11_refuse l D cy ad bs F 3 σ ra σa  h) sh_0 rfl (by decide) rfl km_X11_refuse kv_X11_refuse lm_X11_90 dX11_turn_35 hl.1 rfl rfl (Nat.le_of_ble_eq_true rfl) ⟨by decide, by decide⟩ ⟨Nat.zero_le _, Nat.zero_le _⟩ hf (fun r110 σ111 _ hf H locs hw => ?_)
  refine lv_pop hx hb dX11_turn_38 rfl ?_
  refine lv_iconst (v := mI 0) hx hb dX11_turn_39 rfl ?_
  exact r_zret X hw dX11_turn_40 hf
def g_X11_turn (F : Nat) (x1 x2 : Int) (σ : mMem) : mRs := if σ 0 8 = 3 ∨ σ 0 8 = 8 then mob (g_X5_hasBox F (σ 0 8).toNat x1 σ) (fun r2 σ3 => if mw r2 = 0 then (g_X11_turn_b33 F σ3) else (if mw x2 < 0 then (g_X11_turn_b33 F σ3) else (if mw 3 < mw x2 then (g_X11_turn_b33 F σ3) else (mob (g_X10_of F 20 x1 2 σ3) (fun r4 σ5 => if ¬ mw r4 = mw x2 then (mob (g_X3_remember F 20 σ5) (fun r6 σ7 => mob (g_X10_set F 20 x1 2 x2 σ7) (fun r8 σ9 => if mw 1 = 0 ∨ mw 1 = 1 then some (1, σ9) else none))) else (g_X11_turn_b33 F σ5)))))) else none
set_option maxRecDepth 100000 in
set_option maxHeartbeats 4000000 in
theorem c_X11_turn (l : Launch) (D : va_G) (cy : Nat → ClassId) (ad : Nat → Nat) (bs : Nat) (F : Nat)  (x1 x2 : Int) (σ : mMem) (r : Int) (σ' : mMem)  (hf : g_X11_turn F x1 x2 σ = some (r, σ')) : mCi l D cy ad bs yX11_turn cX11_turn 3 (some .boolean) 3 [.ref (ad 0), .int (mI x1), .int (mI x2)] σ r σ' := by
  refine mCi.of (lv := [(0, .ref (ad 0)), (1, .int (mI x1)), (2, .int (mI x2))]) km_X11_turn.2.2.2.2.2 (Nat.le_of_ble_eq_true rfl) rfl (fun p e s m args below meth c H locs ls X hw hl => ?_)
  obtain ⟨⟨hx, hb, -, -, -⟩, -⟩ := id X
  unfold g_X11_turn at hf
  refine lv_aload_n hx hb dX11_turn_0 rfl (lv_at hl 0 rfl) ?_
  refine r_getp X hw sh_0 fd_11_8 rfl lf_X11_19 dX11_turn_1 hf (fun hg1 hf => ?_)
  refine lv_iload_n hx hb dX11_turn_4 rfl (lv_at hl 1 rfl) ?_
  refine r_cvi (rest := []) [.int (mI x1)] X hw (fun ra σa h => c_X5_hasBox l D cy ad bs F (σ 0 8).toNat x1 σ ra σa (mPlan_z hg1) h) (mPlan_z hg1).1 rfl (by decide) rfl km_X5_hasBox kv_X5_hasBox lm_X11_151 dX11_turn_5 hl.1 rfl rfl (Nat.le_of_ble_eq_true rfl) ⟨by decide, by decide⟩ ⟨Nat.zero_le _, Nat.zero_le _⟩ hf (fun r2 σ3 _ hf H locs hw => ?_)
  refine r_if_eq (tgt := 33) X dX11_turn_8 (by decide) hf (fun hc hf => ?_) (fun hc hf => ?_)
  · exact w_X11_turn_b33 X hw (lv_sub hl [0] rfl) hf
  · refine lv_iload_n hx hb dX11_turn_11 rfl (lv_at hl 2 rfl) ?_
    refine r_if_lt (tgt := 33) X dX11_turn_12 (by decide) hf (fun hc hf => ?_) (fun hc hf => ?_)
    · exact w_X11_turn_b33 X hw (lv_sub hl [0] rfl) hf
    · refine lv_iload_n hx hb dX11_turn_15 rfl (lv_at hl 2 rfl) ?_
      refine lv_iconst (v := mI 3) hx hb dX11_turn_16 rfl ?_
      refine r_icmp_gt (tgt := 33) X dX11_turn_17 (by decide) hf (fun hc hf => ?_) (fun hc hf => ?_)
      · exact w_X11_turn_b33 X hw (lv_sub hl [0] rfl) hf
      · refine lv_aload_n hx hb dX11_turn_20 rfl (lv_at hl 0 rfl) ?_
        refine r_getr 20 X hw sh_0 fd_11_2 rfl rfl lf_X11_40 dX11_turn_21 ?_
        refine lv_iload_n hx hb dX11_turn_24 rfl (lv_at hl 1 rfl) ?_
        refine lv_iconst (v := mI 2) hx hb dX11_turn_25 rfl ?_
        refine r_cvi (rest := []) [.int (mI x1), .int (mI 2)] X hw (fun ra σa h => c_X10_of l D cy ad bs F 20 x1 2 σ3 ra σa sh_w20 h) sh_20 rfl (by decide) rfl km_X10_of kv_X10_of lm_X11_174 dX11_turn_26 hl.1 rfl rfl (Nat.le_of_ble_eq_true rfl) ⟨by decide, by decide⟩ ⟨Nat.zero_le _, Nat.zero_le _⟩ hf (fun r4 σ5 _ hf H locs hw => ?_)
        refine lv_iload_n hx hb dX11_turn_29 rfl (lv_at hl 2 rfl) ?_
        refine r_icmp_ne (tgt := 41) X dX11_turn_30 (by decide) hf (fun hc hf => ?_) (fun hc hf => ?_)
        · refine lv_aload_n hx hb dX11_turn_41 rfl (lv_at hl 0 rfl) ?_
          refine r_getr 54 X hw sh_0 fd_11_5 rfl rfl lf_X11_61 dX11_turn_42 ?_
          refine lv_aload_n hx hb dX11_turn_45 rfl (lv_at hl 0 rfl) ?_
          refine r_getr 20 X hw sh_0 fd_11_2 rfl rfl lf_X11_40 dX11_turn_46 ?_
          refine r_cvv (rest := []) [.ref (ad 20)] X hw (fun ra σa h => c_X3_remember l D cy ad bs F 20 σ5 ra σa sh_w20 h) sh_54 rfl (by decide) rfl km_X3_remember kv_X3_remember lm_X11_228 dX11_turn_49 hl.1 rfl rfl (Nat.le_of_ble_eq_true rfl) ⟨by decide, by decide⟩ ⟨Nat.zero_le _, Nat.zero_le _⟩ hf (fun r6 σ7 _ hf H locs hw => ?_)
          refine lv_aload_n hx hb dX11_turn_52 rfl (lv_at hl 0 rfl) ?_
          refine r_getr 20 X hw sh_0 fd_11_2 rfl rfl lf_X11_40 dX11_turn_53 ?_
          refine lv_iload_n hx hb dX11_turn_56 rfl (lv_at hl 1 rfl) ?_
          refine lv_iconst (v := mI 2) hx hb dX11_turn_57 rfl ?_
          refine lv_iload_n hx hb dX11_turn_58 rfl (lv_at hl 2 rfl) ?_
          refine r_cvv (rest := []) [.int (mI x1), .int (mI 2), .int (mI x2)] X hw (fun ra σa h => c_X10_set l D cy ad bs F 20 x1 2 x2 σ7 ra σa sh_w20 h) sh_20 rfl (by decide) rfl km_X10_set kv_X10_set lm_X11_239 dX11_turn_59 hl.1 rfl rfl (Nat.le_of_ble_eq_true rfl) ⟨by decide, by decide⟩ ⟨Nat.zero_le _, Nat.zero_le _⟩ hf (fun r8 σ9 _ hf H locs hw => ?_)
          refine lv_iconst (v := mI 1) hx hb dX11_turn_62 rfl ?_
          exact r_zret X hw dX11_turn_63 hf
        · exact w_X11_turn_b33 X hw (lv_sub hl [0] rfl) hf
def g_X11_put_b36 (F : Nat)  (σ : mMem) : mRs := mob (g_X11_refuse F 3 σ) (fun r115 σ116 => if mw 0 = 0 ∨ mw 0 = 1 then some (0, σ116) else none)
set_option maxRecDepth 100000 in
set_option maxHeartbeats 4000000 in
theorem w_X11_put_b36 {p : Program} {l : Launch} {e : Env} {s : State} {m : MethodId} {args : Array Value} {below : List Frame} {meth : Method} {c : Code} {D : va_G} {cy : Nat → ClassId} {ad : Nat → Nat} {bs : Nat} {F : Nat}  (X : mCx p m c cX11_put 4 s args RX11 meth D cy (some .boolean))  {r : Int} {σ' : mMem}    {σ : mMem} {H : Heap} {locs : List Loc} {ls : Array Slot} (hw : mWd D cy ad bs true mN σ s.heap H locs) (hl : lv_has ls 4 [(0, .ref (ad 0))]) (hf : g_X11_put_b36 F  σ = some (r, σ')) : mGi p l e 3 s m args below meth c D cy ad bs r σ' H locs (F0 m 36 ls []) := by
  obtain ⟨⟨hx, hb, -, -, -⟩, -⟩ := id X
  unfold g_X11_put_b36 at hf
  refine lv_aload_n hx hb dX11_put_36 rfl (lv_at hl 0 rfl) ?_
  refine lv_iconst (v := mI 3) hx hb dX11_put_37 rfl ?_
  refine r_cvi (rest := []) [.int (mI 3)] X hw (fun ra σa h => c_X11_refuse l D cy ad bs F 3 σ ra σa  h) sh_0 rfl (by decide) rfl km_X11_refuse kv_X11_refuse lm_X11_90 dX11_put_38 hl.1 rfl rfl (Nat.le_of_ble_eq_true rfl) ⟨by decide, by decide⟩ ⟨Nat.zero_le _, Nat.zero_le _⟩ hf (fun r115 σ116 _ hf H locs hw => ?_)
  refine lv_pop hx hb dX11_put_41 rfl ?_
  refine lv_iconst (v := mI 0) hx hb dX11_put_42 rfl ?_
  exact r_zret X hw dX11_put_43 hf
def g_X11_put (F : Nat) (x1 x2 x3 : Int) (σ : mMem) : mRs := if σ 0 8 = 3 ∨ σ 0 8 = 8 then mob (g_X5_hasBox F (σ 0 8).toNat x1 σ) (fun r2 σ3 => if mw r2 = 0 then (g_X11_put_b36 F σ3) else (if σ3 0 8 = 3 ∨ σ3 0 8 = 8 then mob (g_X5_hasCell F (σ3 0 8).toNat x2 x3 σ3) (fun r5 σ6 => if mw r5 = 0 then (g_X11_put_b36 F σ6) else (mob (g_X10_boxOn F 20 x2 x3 σ6) (fun r7 σ8 => if mw r7 = mw (-1) then (mob (g_X3_remember F 20 σ8) (fun r9 σ10 => mob (g_X10_set F 20 x1 0 x2 σ10) (fun r11 σ12 => mob (g_X10_set F 20 x1 1 x3 σ12) (fun r13 σ14 => if mw 1 = 0 ∨ mw 1 = 1 then some (1, σ14) else none)))) else (g_X11_put_b36 F σ8)))) else none)) else none
set_option maxRecDepth 100000 in
set_option maxHeartbeats 4000000 in
theorem c_X11_put (l : Launch) (D : va_G) (cy : Nat → ClassId) (ad : Nat → Nat) (bs : Nat) (F : Nat)  (x1 x2 x3 : Int) (σ : mMem) (r : Int) (σ' : mMem)  (hf : g_X11_put F x1 x2 x3 σ = some (r, σ')) : mCi l D cy ad bs yX11_put cX11_put 4 (some .boolean) 3 [.ref (ad 0), .int (mI x1), .int (mI x2), .int (mI x3)] σ r σ' := by
  refine mCi.of (lv := [(0, .ref (ad 0)), (1, .int (mI x1)), (2, .int (mI x2)), (3, .int (mI x3))]) km_X11_put.2.2.2.2.2 (Nat.le_of_ble_eq_true rfl) rfl (fun p e s m args below meth c H locs ls X hw hl => ?_)
  obtain ⟨⟨hx, hb, -, -, -⟩, -⟩ := id X
  unfold g_X11_put at hf
  refine lv_aload_n hx hb dX11_put_0 rfl (lv_at hl 0 rfl) ?_
  refine r_getp X hw sh_0 fd_11_8 rfl lf_X11_19 dX11_put_1 hf (fun hg1 hf => ?_)
  refine lv_iload_n hx hb dX11_put_4 rfl (lv_at hl 1 rfl) ?_
  refine r_cvi (rest := []) [.int (mI x1)] X hw (fun ra σa h => c_X5_hasBox l D cy ad bs F (σ 0 8).toNat x1 σ ra σa (mPlan_z hg1) h) (mPlan_z hg1).1 rfl (by decide) rfl km_X5_hasBox kv_X5_hasBox lm_X11_151 dX11_put_5 hl.1 rfl rfl (Nat.le_of_ble_eq_true rfl) ⟨by decide, by decide⟩ ⟨Nat.zero_le _, Nat.zero_le _⟩ hf (fun r2 σ3 _ hf H locs hw => ?_)
  refine r_if_eq (tgt := 36) X dX11_put_8 (by decide) hf (fun hc hf => ?_) (fun hc hf => ?_)
  · exact w_X11_put_b36 X hw (lv_sub hl [0] rfl) hf
  · refine lv_aload_n hx hb dX11_put_11 rfl (lv_at hl 0 rfl) ?_
    refine r_getp X hw sh_0 fd_11_8 rfl lf_X11_19 dX11_put_12 hf (fun hg4 hf => ?_)
    refine lv_iload_n hx hb dX11_put_15 rfl (lv_at hl 2 rfl) ?_
    refine lv_iload_n hx hb dX11_put_16 rfl (lv_at hl 3 rfl) ?_
    refine r_cvi (rest := []) [.int (mI x2), .int (mI x3)] X hw (fun ra σa h => c_X5_hasCell l D cy ad bs F (σ3 0 8).toNat x2 x3 σ3 ra σa (mPlan_z hg4) h) (mPlan_z hg4).1 rfl (by decide) rfl km_X5_hasCell kv_X5_hasCell lm_X11_160 dX11_put_17 hl.1 rfl rfl (Nat.le_of_ble_eq_true rfl) ⟨by decide, by decide⟩ ⟨Nat.zero_le _, Nat.zero_le _⟩ hf (fun r5 σ6 _ hf H locs hw => ?_)
    refine r_if_eq (tgt := 36) X dX11_put_20 (by decide) hf (fun hc hf => ?_) (fun hc hf => ?_)
    · exact w_X11_put_b36 X hw (lv_sub hl [0] rfl) hf
    · refine lv_aload_n hx hb dX11_put_23 rfl (lv_at hl 0 rfl) ?_
      refine r_getr 20 X hw sh_0 fd_11_2 rfl rfl lf_X11_40 dX11_put_24 ?_
      refine lv_iload_n hx hb dX11_put_27 rfl (lv_at hl 2 rfl) ?_
      refine lv_iload_n hx hb dX11_put_28 rfl (lv_at hl 3 rfl) ?_
      refine r_cvi (rest := []) [.int (mI x2), .int (mI x3)] X hw (fun ra σa h => c_X10_boxOn l D cy ad bs F 20 x2 x3 σ6 ra σa sh_w20 h) sh_20 rfl (by decide) rfl km_X10_boxOn kv_X10_boxOn lm_X11_171 dX11_put_29 hl.1 rfl rfl (Nat.le_of_ble_eq_true rfl) ⟨by decide, by decide⟩ ⟨Nat.zero_le _, Nat.zero_le _⟩ hf (fun r7 σ8 _ hf H locs hw => ?_)
      refine lv_iconst (v := mI (-1)) hx hb dX11_put_32 rfl ?_
      refine r_icmp_eq (tgt := 44) X dX11_put_33 (by decide) hf (fun hc hf => ?_) (fun hc hf => ?_)
      · refine lv_aload_n hx hb dX11_put_44 rfl (lv_at hl 0 rfl) ?_
        refine r_getr 54 X hw sh_0 fd_11_5 rfl rfl lf_X11_61 dX11_put_45 ?_
        refine lv_aload_n hx hb dX11_put_48 rfl (lv_at hl 0 rfl) ?_
        refine r_getr 20 X hw sh_0 fd_11_2 rfl rfl lf_X11_40 dX11_put_49 ?_
        refine r_cvv (rest := []) [.ref (ad 20)] X hw (fun ra σa h => c_X3_remember l D cy ad bs F 20 σ8 ra σa sh_w20 h) sh_54 rfl (by decide) rfl km_X3_remember kv_X3_remember lm_X11_228 dX11_put_52 hl.1 rfl rfl (Nat.le_of_ble_eq_true rfl) ⟨by decide, by decide⟩ ⟨Nat.zero_le _, Nat.zero_le _⟩ hf (fun r9 σ10 _ hf H locs hw => ?_)
        refine lv_aload_n hx hb dX11_put_55 rfl (lv_at hl 0 rfl) ?_
        refine r_getr 20 X hw sh_0 fd_11_2 rfl rfl lf_X11_40 dX11_put_56 ?_
        refine lv_iload_n hx hb dX11_put_59 rfl (lv_at hl 1 rfl) ?_
        refine lv_iconst (v := mI 0) hx hb dX11_put_60 rfl ?_
        refine lv_iload_n hx hb dX11_put_61 rfl (lv_at hl 2 rfl) ?_
        refine r_cvv (rest := []) [.int (mI x1), .int (mI 0), .int (mI x2)] X hw (fun ra σa h => c_X10_set l D cy ad bs F 20 x1 0 x2 σ10 ra σa sh_w20 h) sh_20 rfl (by decide) rfl km_X10_set kv_X10_set lm_X11_239 dX11_put_62 hl.1 rfl rfl (Nat.le_of_ble_eq_true rfl) ⟨by decide, by decide⟩ ⟨Nat.zero_le _, Nat.zero_le _⟩ hf (fun r11 σ12 _ hf H locs hw => ?_)
        refine lv_aload_n hx hb dX11_put_65 rfl (lv_at hl 0 rfl) ?_
        refine r_getr 20 X hw sh_0 fd_11_2 rfl rfl lf_X11_40 dX11_put_66 ?_
        refine lv_iload_n hx hb dX11_put_69 rfl (lv_at hl 1 rfl) ?_
        refine lv_iconst (v := mI 1) hx hb dX11_put_70 rfl ?_
        refine lv_iload_n hx hb dX11_put_71 rfl (lv_at hl 3 rfl) ?_
        refine r_cvv (rest := []) [.int (mI x1), .int (mI 1), .int (mI x3)] X hw (fun ra σa h => c_X10_set l D cy ad bs F 20 x1 1 x3 σ12 ra σa sh_w20 h) sh_20 rfl (by decide) rfl km_X10_set kv_X10_set lm_X11_239 dX11_put_72 hl.1 rfl rfl (Nat.le_of_ble_eq_true rfl) ⟨by decide, by decide⟩ ⟨Nat.zero_le _, Nat.zero_le _⟩ hf (fun r13 σ14 _ hf H locs hw => ?_)
        refine lv_iconst (v := mI 1) hx hb dX11_put_75 rfl ?_
        exact r_zret X hw dX11_put_76 hf
      · exact w_X11_put_b36 X hw (lv_sub hl [0] rfl) hf
def g_X11_shine_b21 (F : Nat)  (σ : mMem) : mRs := mob (g_X11_refuse F 3 σ) (fun r104 σ105 => if mw 0 = 0 ∨ mw 0 = 1 then some (0, σ105) else none)
set_option maxRecDepth 100000 in
set_option maxHeartbeats 4000000 in
theorem w_X11_shine_b21 {p : Program} {l : Launch} {e : Env} {s : State} {m : MethodId} {args : Array Value} {below : List Frame} {meth : Method} {c : Code} {D : va_G} {cy : Nat → ClassId} {ad : Nat → Nat} {bs : Nat} {F : Nat}  (X : mCx p m c cX11_shine 2 s args RX11 meth D cy (some .boolean))  {r : Int} {σ' : mMem}    {σ : mMem} {H : Heap} {locs : List Loc} {ls : Array Slot} (hw : mWd D cy ad bs true mN σ s.heap H locs) (hl : lv_has ls 2 [(0, .ref (ad 0))]) (hf : g_X11_shine_b21 F  σ = some (r, σ')) : mGi p l e 3 s m args below meth c D cy ad bs r σ' H locs (F0 m 21 ls []) := by
  obtain ⟨⟨hx, hb, -, -, -⟩, -⟩ := id X
  unfold g_X11_shine_b21 at hf
  refine lv_aload_n hx hb dX11_shine_21 rfl (lv_at hl 0 rfl) ?_
  refine lv_iconst (v := mI 3) hx hb dX11_shine_22 rfl ?_
  refine r_cvi (rest := []) [.int (mI 3)] X hw (fun ra σa h => c_X11_refuse l D cy ad bs F 3 σ ra σa  h) sh_0 rfl (by decide) rfl km_X11_refuse kv_X11_refuse lm_X11_90 dX11_shine_23 hl.1 rfl rfl (Nat.le_of_ble_eq_true rfl) ⟨by decide, by decide⟩ ⟨Nat.zero_le _, Nat.zero_le _⟩ hf (fun r104 σ105 _ hf H locs hw => ?_)
  refine lv_pop hx hb dX11_shine_26 rfl ?_
  refine lv_iconst (v := mI 0) hx hb dX11_shine_27 rfl ?_
  exact r_zret X hw dX11_shine_28 hf
def g_X11_shine (F : Nat) (x1 : Int) (σ : mMem) : mRs := if mw x1 < 0 then (g_X11_shine_b21 F σ) else (if mw 9 < mw x1 then (g_X11_shine_b21 F σ) else (if ¬ mw x1 = mw (σ 20 5) then (mob (g_X3_remember F 20 σ) (fun r1 σ2 => mlm (mup σ2 20 5 x1) (fun σ3 => if mw 1 = 0 ∨ mw 1 = 1 then some (1, σ3) else none))) else (g_X11_shine_b21 F σ)))
set_option maxRecDepth 100000 in
set_option maxHeartbeats 4000000 in
theorem c_X11_shine (l : Launch) (D : va_G) (cy : Nat → ClassId) (ad : Nat → Nat) (bs : Nat) (F : Nat)  (x1 : Int) (σ : mMem) (r : Int) (σ' : mMem)  (hf : g_X11_shine F x1 σ = some (r, σ')) : mCi l D cy ad bs yX11_shine cX11_shine 2 (some .boolean) 3 [.ref (ad 0), .int (mI x1)] σ r σ' := by
  refine mCi.of (lv := [(0, .ref (ad 0)), (1, .int (mI x1))]) km_X11_shine.2.2.2.2.2 (Nat.le_of_ble_eq_true rfl) rfl (fun p e s m args below meth c H locs ls X hw hl => ?_)
  obtain ⟨⟨hx, hb, -, -, -⟩, -⟩ := id X
  unfold g_X11_shine at hf
  refine lv_iload_n hx hb dX11_shine_0 rfl (lv_at hl 1 rfl) ?_
  refine r_if_lt (tgt := 21) X dX11_shine_1 (by decide) hf (fun hc hf => ?_) (fun hc hf => ?_)
  · exact w_X11_shine_b21 X hw (lv_sub hl [0] rfl) hf
  · refine lv_iload_n hx hb dX11_shine_4 rfl (lv_at hl 1 rfl) ?_
    refine lv_bipush (v := mI 9) hx hb dX11_shine_5 (by decide) ?_
    refine r_icmp_gt (tgt := 21) X dX11_shine_7 (by decide) hf (fun hc hf => ?_) (fun hc hf => ?_)
    · exact w_X11_shine_b21 X hw (lv_sub hl [0] rfl) hf
    · refine lv_iload_n hx hb dX11_shine_10 rfl (lv_at hl 1 rfl) ?_
      refine lv_aload_n hx hb dX11_shine_11 rfl (lv_at hl 0 rfl) ?_
      refine r_getr 20 X hw sh_0 fd_11_2 rfl rfl lf_X11_40 dX11_shine_12 ?_
      refine r_geti X hw sh_20 fd_10_5 rfl lf_X11_136 dX11_shine_15 ?_
      refine r_icmp_ne (tgt := 29) X dX11_shine_18 (by decide) hf (fun hc hf => ?_) (fun hc hf => ?_)
      · refine lv_aload_n hx hb dX11_shine_29 rfl (lv_at hl 0 rfl) ?_
        refine r_getr 54 X hw sh_0 fd_11_5 rfl rfl lf_X11_61 dX11_shine_30 ?_
        refine lv_aload_n hx hb dX11_shine_33 rfl (lv_at hl 0 rfl) ?_
        refine r_getr 20 X hw sh_0 fd_11_2 rfl rfl lf_X11_40 dX11_shine_34 ?_
        refine r_cvv (rest := []) [.ref (ad 20)] X hw (fun ra σa h => c_X3_remember l D cy ad bs F 20 σ ra σa sh_w20 h) sh_54 rfl (by decide) rfl km_X3_remember kv_X3_remember lm_X11_228 dX11_shine_37 hl.1 rfl rfl (Nat.le_of_ble_eq_true rfl) ⟨by decide, by decide⟩ ⟨Nat.zero_le _, Nat.zero_le _⟩ hf (fun r1 σ2 _ hf H locs hw => ?_)
        refine lv_aload_n hx hb dX11_shine_40 rfl (lv_at hl 0 rfl) ?_
        refine r_getr 20 X hw sh_0 fd_11_2 rfl rfl lf_X11_40 dX11_shine_41 ?_
        refine lv_iload_n hx hb dX11_shine_44 rfl (lv_at hl 1 rfl) ?_
        refine r_puti X hw sh_20 fd_10_5 fp_10_5 rfl rfl lf_X11_136 dX11_shine_45 (fun H locs hw => ?_)
        refine r_mem hf hw (fun σ3 hw hf => ?_)
        refine lv_iconst (v := mI 1) hx hb dX11_shine_48 rfl ?_
        exact r_zret X hw dX11_shine_49 hf
      · exact w_X11_shine_b21 X hw (lv_sub hl [0] rfl) hf
def g_X11_undo (F : Nat) (σ : mMem) : mRs := if ¬ mw (σ 54 4) = 0 then (mob (g_X3_restore F 20 σ) (fun r1 σ2 => if mw 1 = 0 ∨ mw 1 = 1 then some (1, σ2) else none)) else (mob (g_X11_refuse F 4 σ) (fun r3 σ4 => if mw 0 = 0 ∨ mw 0 = 1 then some (0, σ4) else none))
set_option maxRecDepth 100000 in
set_option maxHeartbeats 4000000 in
theorem c_X11_undo (l : Launch) (D : va_G) (cy : Nat → ClassId) (ad : Nat → Nat) (bs : Nat) (F : Nat)   (σ : mMem) (r : Int) (σ' : mMem)  (hf : g_X11_undo F  σ = some (r, σ')) : mCi l D cy ad bs yX11_undo cX11_undo 1 (some .boolean) 3 [.ref (ad 0)] σ r σ' := by
  refine mCi.of (lv := [(0, .ref (ad 0))]) km_X11_undo.2.2.2.2.2 (Nat.le_of_ble_eq_true rfl) rfl (fun p e s m args below meth c H locs ls X hw hl => ?_)
  obtain ⟨⟨hx, hb, -, -, -⟩, -⟩ := id X
  unfold g_X11_undo at hf
  refine lv_aload_n hx hb dX11_undo_0 rfl (lv_at hl 0 rfl) ?_
  refine r_getr 54 X hw sh_0 fd_11_5 rfl rfl lf_X11_61 dX11_undo_1 ?_
  refine r_geti X hw sh_54 fd_3_4 rfl lf_X11_148 dX11_undo_4 ?_
  refine r_if_ne (tgt := 18) X dX11_undo_7 (by decide) hf (fun hc hf => ?_) (fun hc hf => ?_)
  · refine lv_aload_n hx hb dX11_undo_18 rfl (lv_at hl 0 rfl) ?_
    refine r_getr 54 X hw sh_0 fd_11_5 rfl rfl lf_X11_61 dX11_undo_19 ?_
    refine lv_aload_n hx hb dX11_undo_22 rfl (lv_at hl 0 rfl) ?_
    refine r_getr 20 X hw sh_0 fd_11_2 rfl rfl lf_X11_40 dX11_undo_23 ?_
    refine r_cvv (rest := []) [.ref (ad 20)] X hw (fun ra σa h => c_X3_restore l D cy ad bs F 20 σ ra σa sh_w20 h) sh_54 rfl (by decide) rfl km_X3_restore kv_X3_restore lm_X11_243 dX11_undo_26 hl.1 rfl rfl (Nat.le_of_ble_eq_true rfl) ⟨by decide, by decide⟩ ⟨Nat.zero_le _, Nat.zero_le _⟩ hf (fun r1 σ2 _ hf H locs hw => ?_)
    refine lv_iconst (v := mI 1) hx hb dX11_undo_29 rfl ?_
    exact r_zret X hw dX11_undo_30 hf
  · refine lv_aload_n hx hb dX11_undo_10 rfl (lv_at hl 0 rfl) ?_
    refine lv_iconst (v := mI 4) hx hb dX11_undo_11 rfl ?_
    refine r_cvi (rest := []) [.int (mI 4)] X hw (fun ra σa h => c_X11_refuse l D cy ad bs F 4 σ ra σa  h) sh_0 rfl (by decide) rfl km_X11_refuse kv_X11_refuse lm_X11_90 dX11_undo_12 hl.1 rfl rfl (Nat.le_of_ble_eq_true rfl) ⟨by decide, by decide⟩ ⟨Nat.zero_le _, Nat.zero_le _⟩ hf (fun r3 σ4 _ hf H locs hw => ?_)
    refine lv_pop hx hb dX11_undo_15 rfl ?_
    refine lv_iconst (v := mI 0) hx hb dX11_undo_16 rfl ?_
    exact r_zret X hw dX11_undo_17 hf
def g_X11_seed (F : Nat) (x1 : Int) (σ : mMem) : mRs := if 0 ≤ mw x1 then (mlm (mup σ 0 12 x1) (fun σ1 => if mw 1 = 0 ∨ mw 1 = 1 then some (1, σ1) else none)) else (mob (g_X11_refuse F 5 σ) (fun r2 σ3 => if mw 0 = 0 ∨ mw 0 = 1 then some (0, σ3) else none))
set_option maxRecDepth 100000 in
set_option maxHeartbeats 4000000 in
theorem c_X11_seed (l : Launch) (D : va_G) (cy : Nat → ClassId) (ad : Nat → Nat) (bs : Nat) (F : Nat)  (x1 : Int) (σ : mMem) (r : Int) (σ' : mMem)  (hf : g_X11_seed F x1 σ = some (r, σ')) : mCi l D cy ad bs yX11_seed cX11_seed 2 (some .boolean) 2 [.ref (ad 0), .int (mI x1)] σ r σ' := by
  refine mCi.of (lv := [(0, .ref (ad 0)), (1, .int (mI x1))]) km_X11_seed.2.2.2.2.2 (Nat.le_of_ble_eq_true rfl) rfl (fun p e s m args below meth c H locs ls X hw hl => ?_)
  obtain ⟨⟨hx, hb, -, -, -⟩, -⟩ := id X
  unfold g_X11_seed at hf
  refine lv_iload_n hx hb dX11_seed_0 rfl (lv_at hl 1 rfl) ?_
  refine r_if_ge (tgt := 12) X dX11_seed_1 (by decide) hf (fun hc hf => ?_) (fun hc hf => ?_)
  · refine lv_aload_n hx hb dX11_seed_12 rfl (lv_at hl 0 rfl) ?_
    refine lv_iload_n hx hb dX11_seed_13 rfl (lv_at hl 1 rfl) ?_
    refine r_puti X hw sh_0 fd_11_12 fp_11_12 rfl rfl lf_X11_83 dX11_seed_14 (fun H locs hw => ?_)
    refine r_mem hf hw (fun σ1 hw hf => ?_)
    refine lv_iconst (v := mI 1) hx hb dX11_seed_17 rfl ?_
    exact r_zret X hw dX11_seed_18 hf
  · refine lv_aload_n hx hb dX11_seed_4 rfl (lv_at hl 0 rfl) ?_
    refine lv_iconst (v := mI 5) hx hb dX11_seed_5 rfl ?_
    refine r_cvi (rest := []) [.int (mI 5)] X hw (fun ra σa h => c_X11_refuse l D cy ad bs F 5 σ ra σa  h) sh_0 rfl (by decide) rfl km_X11_refuse kv_X11_refuse lm_X11_90 dX11_seed_6 hl.1 rfl rfl (Nat.le_of_ble_eq_true rfl) ⟨by decide, by decide⟩ ⟨Nat.zero_le _, Nat.zero_le _⟩ hf (fun r2 σ3 _ hf H locs hw => ?_)
    refine lv_pop hx hb dX11_seed_9 rfl ?_
    refine lv_iconst (v := mI 0) hx hb dX11_seed_10 rfl ?_
    exact r_zret X hw dX11_seed_11 hf
def g_X11_kept (F : Nat) (x1 x2 : Int) (σ : mMem) : mRs := mob (g_X3_keptPart F x1 x2 σ) (fun r1 σ2 => some (r1, σ2))
set_option maxRecDepth 100000 in
set_option maxHeartbeats 4000000 in
theorem c_X11_kept (l : Launch) (D : va_G) (cy : Nat → ClassId) (ad : Nat → Nat) (bs : Nat) (F : Nat)  (x1 x2 : Int) (σ : mMem) (r : Int) (σ' : mMem)  (hf : g_X11_kept F x1 x2 σ = some (r, σ')) : mCi l D cy ad bs yX11_kept cX11_kept 3 (some .int) 4 [.ref (ad 0), .int (mI x1), .int (mI x2)] σ r σ' := by
  refine mCi.of (lv := [(0, .ref (ad 0)), (1, .int (mI x1)), (2, .int (mI x2))]) km_X11_kept.2.2.2.2.2 (Nat.le_of_ble_eq_true rfl) rfl (fun p e s m args below meth c H locs ls X hw hl => ?_)
  obtain ⟨⟨hx, hb, -, -, -⟩, -⟩ := id X
  unfold g_X11_kept at hf
  refine lv_aload_n hx hb dX11_kept_0 rfl (lv_at hl 0 rfl) ?_
  refine r_getr 54 X hw sh_0 fd_11_5 rfl rfl lf_X11_61 dX11_kept_1 ?_
  refine lv_iload_n hx hb dX11_kept_4 rfl (lv_at hl 1 rfl) ?_
  refine lv_iload_n hx hb dX11_kept_5 rfl (lv_at hl 2 rfl) ?_
  refine r_cvi (rest := []) [.int (mI x1), .int (mI x2)] X hw (fun ra σa h => c_X3_keptPart l D cy ad bs F x1 x2 σ ra σa  h) sh_54 rfl (by decide) rfl km_X3_keptPart kv_X3_keptPart lm_X11_246 dX11_kept_6 hl.1 rfl rfl (Nat.le_of_ble_eq_true rfl) ⟨by decide, by decide⟩ ⟨Nat.zero_le _, Nat.zero_le _⟩ hf (fun r1 σ2 _ hf H locs hw => ?_)
  exact r_iret X hw dX11_kept_9 hf
def g_X11_image (F : Nat) (σ : mMem) : mRs := mob (g_X4_write F 20 σ) (fun r1 σ2 => some (r1, σ2))
set_option maxRecDepth 100000 in
set_option maxHeartbeats 4000000 in
theorem c_X11_image (l : Launch) (D : va_G) (cy : Nat → ClassId) (ad : Nat → Nat) (bs : Nat) (F : Nat)   (σ : mMem) (r : Int) (σ' : mMem)  (hf : g_X11_image F  σ = some (r, σ')) : mCi l D cy ad bs yX11_image cX11_image 1 (some .int) 4 [.ref (ad 0)] σ r σ' := by
  refine mCi.of (lv := [(0, .ref (ad 0))]) km_X11_image.2.2.2.2.2 (Nat.le_of_ble_eq_true rfl) rfl (fun p e s m args below meth c H locs ls X hw hl => ?_)
  obtain ⟨⟨hx, hb, -, -, -⟩, -⟩ := id X
  unfold g_X11_image at hf
  refine lv_aload_n hx hb dX11_image_0 rfl (lv_at hl 0 rfl) ?_
  refine r_getr 77 X hw sh_0 fd_11_6 rfl rfl lf_X11_68 dX11_image_1 ?_
  refine lv_aload_n hx hb dX11_image_4 rfl (lv_at hl 0 rfl) ?_
  refine r_getr 20 X hw sh_0 fd_11_2 rfl rfl lf_X11_40 dX11_image_5 ?_
  refine r_cvi (rest := []) [.ref (ad 20)] X hw (fun ra σa h => c_X4_write l D cy ad bs F 20 σ ra σa sh_w20 h) sh_77 rfl (by decide) rfl km_X4_write kv_X4_write lm_X11_249 dX11_image_8 hl.1 rfl rfl (Nat.le_of_ble_eq_true rfl) ⟨by decide, by decide⟩ ⟨Nat.zero_le _, Nat.zero_le _⟩ hf (fun r1 σ2 _ hf H locs hw => ?_)
  exact r_iret X hw dX11_image_11 hf
def g_X11_octet (F : Nat) (x1 : Int) (σ : mMem) : mRs := mob (g_X4_byteAt F x1 σ) (fun r1 σ2 => some (r1, σ2))
set_option maxRecDepth 100000 in
set_option maxHeartbeats 4000000 in
theorem c_X11_octet (l : Launch) (D : va_G) (cy : Nat → ClassId) (ad : Nat → Nat) (bs : Nat) (F : Nat)  (x1 : Int) (σ : mMem) (r : Int) (σ' : mMem)  (hf : g_X11_octet F x1 σ = some (r, σ')) : mCi l D cy ad bs yX11_octet cX11_octet 2 (some .int) 2 [.ref (ad 0), .int (mI x1)] σ r σ' := by
  refine mCi.of (lv := [(0, .ref (ad 0)), (1, .int (mI x1))]) km_X11_octet.2.2.2.2.2 (Nat.le_of_ble_eq_true rfl) rfl (fun p e s m args below meth c H locs ls X hw hl => ?_)
  obtain ⟨⟨hx, hb, -, -, -⟩, -⟩ := id X
  unfold g_X11_octet at hf
  refine lv_aload_n hx hb dX11_octet_0 rfl (lv_at hl 0 rfl) ?_
  refine r_getr 77 X hw sh_0 fd_11_6 rfl rfl lf_X11_68 dX11_octet_1 ?_
  refine lv_iload_n hx hb dX11_octet_4 rfl (lv_at hl 1 rfl) ?_
  refine r_cvi (rest := []) [.int (mI x1)] X hw (fun ra σa h => c_X4_byteAt l D cy ad bs F x1 σ ra σa  h) sh_77 rfl (by decide) rfl km_X4_byteAt kv_X4_byteAt lm_X11_252 dX11_octet_5 hl.1 rfl rfl (Nat.le_of_ble_eq_true rfl) ⟨by decide, by decide⟩ ⟨Nat.zero_le _, Nat.zero_le _⟩ hf (fun r1 σ2 _ hf H locs hw => ?_)
  exact r_iret X hw dX11_octet_8 hf
def g_X11_on (F : Nat) (σ : mMem) : mRs := mob (g_X4_readInto F 20 σ) (fun r1 σ2 => mlm (mup σ2 1 1 0) (fun σ3 => if ¬ mw r1 = 0 then (mob (g_X3_forget F σ3) (fun r4 σ5 => if mw 1 = 0 ∨ mw 1 = 1 then some (1, σ5) else none)) else (mob (g_X11_refuse F 5 σ3) (fun r6 σ7 => if mw 0 = 0 ∨ mw 0 = 1 then some (0, σ7) else none))))
set_option maxRecDepth 100000 in
set_option maxHeartbeats 4000000 in
theorem c_X11_on (l : Launch) (D : va_G) (cy : Nat → ClassId) (ad : Nat → Nat) (bs : Nat) (F : Nat)   (σ : mMem) (r : Int) (σ' : mMem)  (hf : g_X11_on F  σ = some (r, σ')) : mCi l D cy ad bs yX11_on cX11_on 2 (some .boolean) 5 [.ref (ad 0)] σ r σ' := by
  refine mCi.of (lv := [(0, .ref (ad 0))]) km_X11_on.2.2.2.2.2 (Nat.le_of_ble_eq_true rfl) rfl (fun p e s m args below meth c H locs ls X hw hl => ?_)
  obtain ⟨⟨hx, hb, -, -, -⟩, -⟩ := id X
  unfold g_X11_on at hf
  refine lv_aload_n hx hb dX11_on_0 rfl (lv_at hl 0 rfl) ?_
  refine r_getr 77 X hw sh_0 fd_11_6 rfl rfl lf_X11_68 dX11_on_1 ?_
  refine lv_aload_n hx hb dX11_on_4 rfl (lv_at hl 0 rfl) ?_
  refine r_getr 20 X hw sh_0 fd_11_2 rfl rfl lf_X11_40 dX11_on_5 ?_
  refine lv_aload_n hx hb dX11_on_8 rfl (lv_at hl 0 rfl) ?_
  refine r_getr 1 X hw sh_0 fd_11_0 rfl rfl lf_X11_10 dX11_on_9 ?_
  refine r_cvi (rest := []) [.ref (ad 20), .ref (ad 1)] X hw (fun ra σa h => c_X4_readInto l D cy ad bs F 20 σ ra σa sh_w20 h) sh_77 rfl (by decide) rfl km_X4_readInto kv_X4_readInto lm_X11_255 dX11_on_12 hl.1 rfl rfl (Nat.le_of_ble_eq_true rfl) ⟨by decide, by decide⟩ ⟨Nat.zero_le _, Nat.zero_le _⟩ hf (fun r1 σ2 _ hf H locs hw => ?_)
  refine lv_istore_n (lv' := [(1, .int (mI r1)), (0, .ref (ad 0))]) hx hb dX11_on_15 rfl hl (by decide) rfl (fun ls hl => ?_)
  refine lv_aload_n hx hb dX11_on_16 rfl (lv_at hl 1 rfl) ?_
  refine r_getr 1 X hw sh_0 fd_11_0 rfl rfl lf_X11_10 dX11_on_17 ?_
  refine lv_iconst (v := mI 0) hx hb dX11_on_20 rfl ?_
  refine r_puti X hw sh_1 fd_7_1 fp_7_1 rfl rfl lf_X11_98 dX11_on_21 (fun H locs hw => ?_)
  refine r_mem hf hw (fun σ3 hw hf => ?_)
  refine lv_iload_n hx hb dX11_on_24 rfl (lv_at hl 0 rfl) ?_
  refine r_if_ne (tgt := 36) X dX11_on_25 (by decide) hf (fun hc hf => ?_) (fun hc hf => ?_)
  · refine lv_aload_n hx hb dX11_on_36 rfl (lv_at hl 1 rfl) ?_
    refine r_getr 54 X hw sh_0 fd_11_5 rfl rfl lf_X11_61 dX11_on_37 ?_
    refine r_cvv (rest := []) [] X hw (fun ra σa h => c_X3_forget l D cy ad bs F σ3 ra σa  h) sh_54 rfl (by decide) rfl km_X3_forget kv_X3_forget lm_X11_116 dX11_on_40 hl.1 rfl rfl (Nat.le_of_ble_eq_true rfl) ⟨by decide, by decide⟩ ⟨Nat.zero_le _, Nat.zero_le _⟩ hf (fun r4 σ5 _ hf H locs hw => ?_)
    refine lv_iconst (v := mI 1) hx hb dX11_on_43 rfl ?_
    exact r_zret X hw dX11_on_44 hf
  · refine lv_aload_n hx hb dX11_on_28 rfl (lv_at hl 1 rfl) ?_
    refine lv_iconst (v := mI 5) hx hb dX11_on_29 rfl ?_
    refine r_cvi (rest := []) [.int (mI 5)] X hw (fun ra σa h => c_X11_refuse l D cy ad bs F 5 σ3 ra σa  h) sh_0 rfl (by decide) rfl km_X11_refuse kv_X11_refuse lm_X11_90 dX11_on_30 hl.1 rfl rfl (Nat.le_of_ble_eq_true rfl) ⟨by decide, by decide⟩ ⟨Nat.zero_le _, Nat.zero_le _⟩ hf (fun r6 σ7 _ hf H locs hw => ?_)
    refine lv_pop hx hb dX11_on_33 rfl ?_
    refine lv_iconst (v := mI 0) hx hb dX11_on_34 rfl ?_
    exact r_zret X hw dX11_on_35 hf
def g_X11_status_b23 (F : Nat)  (t0 : Int) (σ : mMem) : mRs := some (t0, σ)
set_option maxRecDepth 100000 in
set_option maxHeartbeats 4000000 in
theorem w_X11_status_b23 {p : Program} {l : Launch} {e : Env} {s : State} {m : MethodId} {args : Array Value} {below : List Frame} {meth : Method} {c : Code} {D : va_G} {cy : Nat → ClassId} {ad : Nat → Nat} {bs : Nat} {F : Nat}  (X : mCx p m c cX11_status 2 s args RX11 meth D cy (some .int))  {r : Int} {σ' : mMem}   {t0 : Int} {σ : mMem} {H : Heap} {locs : List Loc} {ls : Array Slot} (hw : mWd D cy ad bs true mN σ s.heap H locs) (hl : lv_has ls 2 [(0, .ref (ad 0))]) (hf : g_X11_status_b23 F t0 σ = some (r, σ')) : mGi p l e 1 s m args below meth c D cy ad bs r σ' H locs (F0 m 23 ls [.int (mI t0)]) := by
  obtain ⟨⟨hx, hb, -, -, -⟩, -⟩ := id X
  unfold g_X11_status_b23 at hf
  exact r_iret X hw dX11_status_23 hf
def g_X11_status_b13 (F : Nat)  (σ : mMem) : mRs := g_X11_status_b23 F (-1) σ
set_option maxRecDepth 100000 in
set_option maxHeartbeats 4000000 in
theorem w_X11_status_b13 {p : Program} {l : Launch} {e : Env} {s : State} {m : MethodId} {args : Array Value} {below : List Frame} {meth : Method} {c : Code} {D : va_G} {cy : Nat → ClassId} {ad : Nat → Nat} {bs : Nat} {F : Nat}  (X : mCx p m c cX11_status 2 s args RX11 meth D cy (some .int))  {r : Int} {σ' : mMem}    {σ : mMem} {H : Heap} {locs : List Loc} {ls : Array Slot} (hw : mWd D cy ad bs true mN σ s.heap H locs) (hl : lv_has ls 2 [(0, .ref (ad 0))]) (hf : g_X11_status_b13 F  σ = some (r, σ')) : mGi p l e 1 s m args below meth c D cy ad bs r σ' H locs (F0 m 13 ls []) := by
  obtain ⟨⟨hx, hb, -, -, -⟩, -⟩ := id X
  unfold g_X11_status_b13 at hf
  refine lv_iconst (v := mI (-1)) hx hb dX11_status_13 rfl ?_
  refine lv_goto (tgt := 23) hx hb dX11_status_14 (by decide) ?_
  exact w_X11_status_b23 X hw (lv_sub hl [0] rfl) hf
def g_X11_status (F : Nat) (x1 : Int) (σ : mMem) : mRs := if mw x1 < 0 then (g_X11_status_b13 F σ) else (if mw x1 < mw 6 then (if 0 ≤ mw x1 ∧ mw x1 < (6 : Int) then g_X11_status_b23 F (σ 85 (mw x1).toNat) σ else none) else (g_X11_status_b13 F σ))
set_option maxRecDepth 100000 in
set_option maxHeartbeats 4000000 in
theorem c_X11_status (l : Launch) (D : va_G) (cy : Nat → ClassId) (ad : Nat → Nat) (bs : Nat) (F : Nat)  (x1 : Int) (σ : mMem) (r : Int) (σ' : mMem)  (hf : g_X11_status F x1 σ = some (r, σ')) : mCi l D cy ad bs yX11_status cX11_status 2 (some .int) 1 [.ref (ad 0), .int (mI x1)] σ r σ' := by
  refine mCi.of (lv := [(0, .ref (ad 0)), (1, .int (mI x1))]) km_X11_status.2.2.2.2.2 (Nat.le_of_ble_eq_true rfl) rfl (fun p e s m args below meth c H locs ls X hw hl => ?_)
  obtain ⟨⟨hx, hb, -, -, -⟩, -⟩ := id X
  unfold g_X11_status at hf
  refine lv_iload_n hx hb dX11_status_0 rfl (lv_at hl 1 rfl) ?_
  refine r_if_lt (tgt := 13) X dX11_status_1 (by decide) hf (fun hc hf => ?_) (fun hc hf => ?_)
  · exact w_X11_status_b13 X hw (lv_sub hl [0] rfl) hf
  · refine lv_iload_n hx hb dX11_status_4 rfl (lv_at hl 1 rfl) ?_
    refine lv_aload_n hx hb dX11_status_5 rfl (lv_at hl 0 rfl) ?_
    refine r_getr 85 X hw sh_0 fd_11_7 rfl rfl lf_X11_72 dX11_status_6 ?_
    refine r_ileni (6 : Int) rfl X hw sh_85 dX11_status_9 ?_
    refine r_icmp_lt (tgt := 17) X dX11_status_10 (by decide) hf (fun hc hf => ?_) (fun hc hf => ?_)
    · refine lv_aload_n hx hb dX11_status_17 rfl (lv_at hl 0 rfl) ?_
      refine r_getr 85 X hw sh_0 fd_11_7 rfl rfl lf_X11_72 dX11_status_18 ?_
      refine lv_iload_n hx hb dX11_status_21 rfl (lv_at hl 1 rfl) ?_
      refine r_iald (6 : Int) rfl X hw sh_85 dX11_status_22 hf (fun hf => ?_)
      exact w_X11_status_b23 X hw (lv_sub hl [0] rfl) hf
    · exact w_X11_status_b13 X hw (lv_sub hl [0] rfl) hf
def g_X12_is_b15 (F : Nat)  (t0 : Int) (σ : mMem) : mRs := if mw t0 = 0 ∨ mw t0 = 1 then some (t0, σ) else none
set_option maxRecDepth 100000 in
set_option maxHeartbeats 4000000 in
theorem w_X12_is_b15 {p : Program} {l : Launch} {e : Env} {s : State} {m : MethodId} {args : Array Value} {below : List Frame} {meth : Method} {c : Code} {D : va_G} {cy : Nat → ClassId} {ad : Nat → Nat} {bs : Nat} {F : Nat}  (X : mCx p m c cX12_is 3 s args RX12 meth D cy (some .boolean))  {r : Int} {σ' : mMem}   {t0 : Int} {σ : mMem} {H : Heap} {locs : List Loc} {ls : Array Slot} (hw : mWd D cy ad bs true mN σ s.heap H locs) (hl : lv_has ls 3 []) (hf : g_X12_is_b15 F t0 σ = some (r, σ')) : mGi p l e 1 s m args below meth c D cy ad bs r σ' H locs (F0 m 15 ls [.int (mI t0)]) := by
  obtain ⟨⟨hx, hb, -, -, -⟩, -⟩ := id X
  unfold g_X12_is_b15 at hf
  exact r_zret X hw dX12_is_15 hf
def g_X12_is_b14 (F : Nat)  (σ : mMem) : mRs := g_X12_is_b15 F 0 σ
set_option maxRecDepth 100000 in
set_option maxHeartbeats 4000000 in
theorem w_X12_is_b14 {p : Program} {l : Launch} {e : Env} {s : State} {m : MethodId} {args : Array Value} {below : List Frame} {meth : Method} {c : Code} {D : va_G} {cy : Nat → ClassId} {ad : Nat → Nat} {bs : Nat} {F : Nat}  (X : mCx p m c cX12_is 3 s args RX12 meth D cy (some .boolean))  {r : Int} {σ' : mMem}    {σ : mMem} {H : Heap} {locs : List Loc} {ls : Array Slot} (hw : mWd D cy ad bs true mN σ s.heap H locs) (hl : lv_has ls 3 []) (hf : g_X12_is_b14 F  σ = some (r, σ')) : mGi p l e 1 s m args below meth c D cy ad bs r σ' H locs (F0 m 14 ls []) := by
  obtain ⟨⟨hx, hb, -, -, -⟩, -⟩ := id X
  unfold g_X12_is_b14 at hf
  refine lv_iconst (v := mI 0) hx hb dX12_is_14 rfl ?_
  exact w_X12_is_b15 X hw (lv_sub hl [] rfl) hf
def g_X12_is (F : Nat) (x0 x1 x2 : Int) (σ : mMem) : mRs := if mw x0 < mw x1 then (g_X12_is_b14 F σ) else (if mw x2 < mw x0 then (g_X12_is_b14 F σ) else (g_X12_is_b15 F 1 σ))
set_option maxRecDepth 100000 in
set_option maxHeartbeats 4000000 in
theorem c_X12_is (l : Launch) (D : va_G) (cy : Nat → ClassId) (ad : Nat → Nat) (bs : Nat) (F : Nat)  (x0 x1 x2 : Int) (σ : mMem) (r : Int) (σ' : mMem)  (hf : g_X12_is F x0 x1 x2 σ = some (r, σ')) : mCi l D cy ad bs yX12_is cX12_is 3 (some .boolean) 1 [.int (mI x0), .int (mI x1), .int (mI x2)] σ r σ' := by
  refine mCi.of (lv := [(0, .int (mI x0)), (1, .int (mI x1)), (2, .int (mI x2))]) km_X12_is.2.2.2.2.2 (Nat.le_of_ble_eq_true rfl) rfl (fun p e s m args below meth c H locs ls X hw hl => ?_)
  obtain ⟨⟨hx, hb, -, -, -⟩, -⟩ := id X
  unfold g_X12_is at hf
  refine lv_iload_n hx hb dX12_is_0 rfl (lv_at hl 0 rfl) ?_
  refine lv_iload_n hx hb dX12_is_1 rfl (lv_at hl 1 rfl) ?_
  refine r_icmp_lt (tgt := 14) X dX12_is_2 (by decide) hf (fun hc hf => ?_) (fun hc hf => ?_)
  · exact w_X12_is_b14 X hw (lv_sub hl [] rfl) hf
  · refine lv_iload_n hx hb dX12_is_5 rfl (lv_at hl 0 rfl) ?_
    refine lv_iload_n hx hb dX12_is_6 rfl (lv_at hl 2 rfl) ?_
    refine r_icmp_gt (tgt := 14) X dX12_is_7 (by decide) hf (fun hc hf => ?_) (fun hc hf => ?_)
    · exact w_X12_is_b14 X hw (lv_sub hl [] rfl) hf
    · refine lv_iconst (v := mI 1) hx hb dX12_is_10 rfl ?_
      refine lv_goto (tgt := 15) hx hb dX12_is_11 (by decide) ?_
      exact w_X12_is_b15 X hw (lv_sub hl [] rfl) hf
def g_X12_put_h3 (F : Nat)  : Nat → Int → Int → mMem → mRs
  | 0, _, _, _ => none
  | n + 1, x1, x2, σ => if mw x2 < 0 then (some (0, σ)) else (if 0 ≤ mw (σ 86 1) ∧ mw (σ 86 1) < (1800 : Int) then mlm (mup σ 87 (mw (σ 86 1)).toNat (mand (mshr x1 x2) 255)) (fun σ101 => mlm (mup σ101 86 1 ((σ101 86 1) + 1)) (fun σ102 => (g_X12_put_h3 F n) x1 (x2 + (-8)) σ102)) else none)
set_option maxRecDepth 100000 in
set_option maxHeartbeats 4000000 in
theorem w_X12_put_h3 {p : Program} {l : Launch} {e : Env} {s : State} {m : MethodId} {args : Array Value} {below : List Frame} {meth : Method} {c : Code} {D : va_G} {cy : Nat → ClassId} {ad : Nat → Nat} {bs : Nat} {F : Nat}  (X : mCx p m c cX12_put 3 s args RX12 meth D cy none)  {r : Int} {σ' : mMem}   (n : Nat) : ∀ {x1 x2 : Int} {σ : mMem} {H : Heap} {locs : List Loc} {ls : Array Slot} (_ : mWd D cy ad bs true mN σ s.heap H locs) (_ : lv_has ls 3 [(0, .ref (ad 86)), (1, .int (mI x1)), (2, .int (mI x2))]) (_ : g_X12_put_h3 F n x1 x2 σ = some (r, σ')), mGv p l e 1 s m args below meth c D cy ad bs σ' H locs (F0 m 3 ls []) := by
  obtain ⟨⟨hx, hb, -, -, -⟩, -⟩ := id X
  induction n with
  | zero =>
    intro x1 x2 σ H locs ls hw hl hf
    unfold g_X12_put_h3 at hf
    cases hf
  | succ n ih =>
    have hk3 : ∀ (x1 x2 : Int) (σ : mMem) (H : Heap) (locs : List Loc) (ls : Array Slot), mWd D cy ad bs true mN σ s.heap H locs → lv_has ls 3 [(0, .ref (ad 86)), (1, .int (mI x1)), (2, .int (mI x2))] → g_X12_put_h3 F n x1 x2 σ = some (r, σ') → mGv p l e 1 s m args below meth c D cy ad bs σ' H locs (F0 m 3 ls []) := fun x1 x2 σ H locs ls hw hl hf => ih hw hl hf
    intro x1 x2 σ H locs ls hw hl hf
    unfold g_X12_put_h3 at hf
    refine lv_iload_n hx hb dX12_put_3 rfl (lv_at hl 2 rfl) ?_
    refine r_if_lt (tgt := 39) X dX12_put_4 (by decide) hf (fun hc hf => ?_) (fun hc hf => ?_)
    · exact r_vret X hw dX12_put_39 hf
    · refine lv_aload_n hx hb dX12_put_7 rfl (lv_at hl 0 rfl) ?_
      refine r_getr 87 X hw sh_86 fd_12_0 rfl rfl lf_X12_7 dX12_put_8 ?_
      refine lv_aload_n hx hb dX12_put_11 rfl (lv_at hl 0 rfl) ?_
      refine r_geti X hw sh_86 fd_12_1 rfl lf_X12_13 dX12_put_12 ?_
      refine lv_iload_n hx hb dX12_put_15 rfl (lv_at hl 1 rfl) ?_
      refine lv_iload_n hx hb dX12_put_16 rfl (lv_at hl 2 rfl) ?_
      refine r_ishr X dX12_put_17 ?_
      refine lv_sipush (v := mI 255) hx hb dX12_put_18 (by decide) ?_
      refine r_iand X dX12_put_21 ?_
      refine r_iast (1800 : Int) rfl X hw sh_87 dX12_put_22 hf (fun hf H locs hw => ?_)
      refine r_mem hf hw (fun σ101 hw hf => ?_)
      refine lv_aload_n hx hb dX12_put_23 rfl (lv_at hl 0 rfl) ?_
      refine lv_dup hx hb dX12_put_24 rfl ?_
      refine r_geti X hw sh_86 fd_12_1 rfl lf_X12_13 dX12_put_25 ?_
      refine lv_iconst (v := mI 1) hx hb dX12_put_28 rfl ?_
      refine r_iadd X dX12_put_29 ?_
      refine r_puti X hw sh_86 fd_12_1 fp_12_1 rfl rfl lf_X12_13 dX12_put_30 (fun H locs hw => ?_)
      refine r_mem hf hw (fun σ102 hw hf => ?_)
      refine lv_iinc (v := mI (x2 + (-8))) (lv' := [(2, .int (mI (x2 + (-8)))), (0, .ref (ad 86)), (1, .int (mI x1))]) hx hb dX12_put_33 hl (k := 2) rfl (mI_add _ _) (by decide) rfl (fun ls hl => ?_)
      refine lv_goto (tgt := 3) hx hb dX12_put_36 (by decide) ?_
      exact hk3 x1 (x2 + (-8)) σ102 _ _ _ hw (lv_sub hl [1, 2, 0] rfl) hf
def g_X12_put (F : Nat) (x1 : Int) (σ : mMem) : mRs := g_X12_put_h3 F F x1 24 σ
set_option maxRecDepth 100000 in
set_option maxHeartbeats 4000000 in
theorem c_X12_put (l : Launch) (D : va_G) (cy : Nat → ClassId) (ad : Nat → Nat) (bs : Nat) (F : Nat)  (x1 : Int) (σ : mMem) (r : Int) (σ' : mMem)  (hf : g_X12_put F x1 σ = some (r, σ')) : mCv l D cy ad bs yX12_put cX12_put 3 none 1 [.ref (ad 86), .int (mI x1)] σ σ' := by
  refine mCv.of (lv := [(0, .ref (ad 86)), (1, .int (mI x1))]) km_X12_put.2.2.2.2.2 (Nat.le_of_ble_eq_true rfl) rfl (fun p e s m args below meth c H locs ls X hw hl => ?_)
  obtain ⟨⟨hx, hb, -, -, -⟩, -⟩ := id X
  unfold g_X12_put at hf
  refine lv_bipush (v := mI 24) hx hb dX12_put_0 (by decide) ?_
  refine lv_istore_n (lv' := [(2, .int (mI 24)), (0, .ref (ad 86)), (1, .int (mI x1))]) hx hb dX12_put_2 rfl hl (by decide) rfl (fun ls hl => ?_)
  exact w_X12_put_h3 X _ hw (lv_sub hl [1, 2, 0] rfl) hf
def g_X12_refuses (F : Nat) (x1 : Int) (σ : mMem) : mRs := if 0 ≤ mw x1 ∧ mw x1 < (6 : Int) then if 0 ≤ mw x1 ∧ mw x1 < (6 : Int) then mlm (mup σ 109 (mw x1).toNat ((σ 109 (mw x1).toNat) + 1)) (fun σ1 => some ((-1), σ1)) else none else none
set_option maxRecDepth 100000 in
set_option maxHeartbeats 4000000 in
theorem c_X12_refuses (l : Launch) (D : va_G) (cy : Nat → ClassId) (ad : Nat → Nat) (bs : Nat) (F : Nat)  (x1 : Int) (σ : mMem) (r : Int) (σ' : mMem)  (hf : g_X12_refuses F x1 σ = some (r, σ')) : mCi l D cy ad bs yX12_refuses cX12_refuses 2 (some .int) 1 [.ref (ad 86), .int (mI x1)] σ r σ' := by
  refine mCi.of (lv := [(0, .ref (ad 86)), (1, .int (mI x1))]) km_X12_refuses.2.2.2.2.2 (Nat.le_of_ble_eq_true rfl) rfl (fun p e s m args below meth c H locs ls X hw hl => ?_)
  obtain ⟨⟨hx, hb, -, -, -⟩, -⟩ := id X
  unfold g_X12_refuses at hf
  refine lv_aload_n hx hb dX12_refuses_0 rfl (lv_at hl 0 rfl) ?_
  refine r_getr 109 X hw sh_86 fd_12_42 rfl rfl lf_X12_141 dX12_refuses_1 ?_
  refine lv_iload_n hx hb dX12_refuses_4 rfl (lv_at hl 1 rfl) ?_
  refine lv_dup2_11 hx hb dX12_refuses_5 rfl rfl ?_
  refine r_iald (6 : Int) rfl X hw sh_109 dX12_refuses_6 hf (fun hf => ?_)
  refine lv_iconst (v := mI 1) hx hb dX12_refuses_7 rfl ?_
  refine r_iadd X dX12_refuses_8 ?_
  refine r_iast (6 : Int) rfl X hw sh_109 dX12_refuses_9 hf (fun hf H locs hw => ?_)
  refine r_mem hf hw (fun σ1 hw hf => ?_)
  refine lv_iconst (v := mI (-1)) hx hb dX12_refuses_10 rfl ?_
  exact r_iret X hw dX12_refuses_11 hf
def g_X12_feed (F : Nat) (x1 x2 x3 x4 x5 : Int) (σ : mMem) : mRs := if mw ((σ 86 1) + 20) ≤ mw 1600 then (mob (g_X12_put F x1 σ) (fun r1 σ2 => mob (g_X12_put F x2 σ2) (fun r3 σ4 => mob (g_X12_put F x3 σ4) (fun r5 σ6 => mob (g_X12_put F x4 σ6) (fun r7 σ8 => mob (g_X12_put F x5 σ8) (fun r9 σ10 => some (σ10 86 1, σ10))))))) else (mob (g_X12_refuses F 0 σ) (fun r11 σ12 => some (r11, σ12)))
set_option maxRecDepth 100000 in
set_option maxHeartbeats 4000000 in
theorem c_X12_feed (l : Launch) (D : va_G) (cy : Nat → ClassId) (ad : Nat → Nat) (bs : Nat) (F : Nat)  (x1 x2 x3 x4 x5 : Int) (σ : mMem) (r : Int) (σ' : mMem)  (hf : g_X12_feed F x1 x2 x3 x4 x5 σ = some (r, σ')) : mCi l D cy ad bs yX12_feed cX12_feed 6 (some .int) 2 [.ref (ad 86), .int (mI x1), .int (mI x2), .int (mI x3), .int (mI x4), .int (mI x5)] σ r σ' := by
  refine mCi.of (lv := [(0, .ref (ad 86)), (1, .int (mI x1)), (2, .int (mI x2)), (3, .int (mI x3)), (4, .int (mI x4)), (5, .int (mI x5))]) km_X12_feed.2.2.2.2.2 (Nat.le_of_ble_eq_true rfl) rfl (fun p e s m args below meth c H locs ls X hw hl => ?_)
  obtain ⟨⟨hx, hb, -, -, -⟩, -⟩ := id X
  unfold g_X12_feed at hf
  refine lv_aload_n hx hb dX12_feed_0 rfl (lv_at hl 0 rfl) ?_
  refine r_geti X hw sh_86 fd_12_1 rfl lf_X12_13 dX12_feed_1 ?_
  refine lv_bipush (v := mI 20) hx hb dX12_feed_4 (by decide) ?_
  refine r_iadd X dX12_feed_6 ?_
  refine lv_sipush (v := mI 1600) hx hb dX12_feed_7 (by decide) ?_
  refine r_icmp_le (tgt := 19) X dX12_feed_10 (by decide) hf (fun hc hf => ?_) (fun hc hf => ?_)
  · refine lv_aload_n hx hb dX12_feed_19 rfl (lv_at hl 0 rfl) ?_
    refine lv_iload_n hx hb dX12_feed_20 rfl (lv_at hl 1 rfl) ?_
    refine r_cvv (rest := []) [.int (mI x1)] X hw (fun ra σa h => c_X12_put l D cy ad bs F x1 σ ra σa  h) sh_86 rfl (by decide) rfl km_X12_put kv_X12_put lm_X12_239 dX12_feed_21 hl.1 rfl rfl (Nat.le_of_ble_eq_true rfl) ⟨by decide, by decide⟩ ⟨Nat.zero_le _, Nat.zero_le _⟩ hf (fun r1 σ2 _ hf H locs hw => ?_)
    refine lv_aload_n hx hb dX12_feed_24 rfl (lv_at hl 0 rfl) ?_
    refine lv_iload_n hx hb dX12_feed_25 rfl (lv_at hl 2 rfl) ?_
    refine r_cvv (rest := []) [.int (mI x2)] X hw (fun ra σa h => c_X12_put l D cy ad bs F x2 σ2 ra σa  h) sh_86 rfl (by decide) rfl km_X12_put kv_X12_put lm_X12_239 dX12_feed_26 hl.1 rfl rfl (Nat.le_of_ble_eq_true rfl) ⟨by decide, by decide⟩ ⟨Nat.zero_le _, Nat.zero_le _⟩ hf (fun r3 σ4 _ hf H locs hw => ?_)
    refine lv_aload_n hx hb dX12_feed_29 rfl (lv_at hl 0 rfl) ?_
    refine lv_iload_n hx hb dX12_feed_30 rfl (lv_at hl 3 rfl) ?_
    refine r_cvv (rest := []) [.int (mI x3)] X hw (fun ra σa h => c_X12_put l D cy ad bs F x3 σ4 ra σa  h) sh_86 rfl (by decide) rfl km_X12_put kv_X12_put lm_X12_239 dX12_feed_31 hl.1 rfl rfl (Nat.le_of_ble_eq_true rfl) ⟨by decide, by decide⟩ ⟨Nat.zero_le _, Nat.zero_le _⟩ hf (fun r5 σ6 _ hf H locs hw => ?_)
    refine lv_aload_n hx hb dX12_feed_34 rfl (lv_at hl 0 rfl) ?_
    refine lv_iload hx hb dX12_feed_35 (lv_at hl 4 rfl) ?_
    refine r_cvv (rest := []) [.int (mI x4)] X hw (fun ra σa h => c_X12_put l D cy ad bs F x4 σ6 ra σa  h) sh_86 rfl (by decide) rfl km_X12_put kv_X12_put lm_X12_239 dX12_feed_37 hl.1 rfl rfl (Nat.le_of_ble_eq_true rfl) ⟨by decide, by decide⟩ ⟨Nat.zero_le _, Nat.zero_le _⟩ hf (fun r7 σ8 _ hf H locs hw => ?_)
    refine lv_aload_n hx hb dX12_feed_40 rfl (lv_at hl 0 rfl) ?_
    refine lv_iload hx hb dX12_feed_41 (lv_at hl 5 rfl) ?_
    refine r_cvv (rest := []) [.int (mI x5)] X hw (fun ra σa h => c_X12_put l D cy ad bs F x5 σ8 ra σa  h) sh_86 rfl (by decide) rfl km_X12_put kv_X12_put lm_X12_239 dX12_feed_43 hl.1 rfl rfl (Nat.le_of_ble_eq_true rfl) ⟨by decide, by decide⟩ ⟨Nat.zero_le _, Nat.zero_le _⟩ hf (fun r9 σ10 _ hf H locs hw => ?_)
    refine lv_aload_n hx hb dX12_feed_46 rfl (lv_at hl 0 rfl) ?_
    refine r_geti X hw sh_86 fd_12_1 rfl lf_X12_13 dX12_feed_47 ?_
    exact r_iret X hw dX12_feed_50 hf
  · refine lv_aload_n hx hb dX12_feed_13 rfl (lv_at hl 0 rfl) ?_
    refine lv_iconst (v := mI 0) hx hb dX12_feed_14 rfl ?_
    refine r_cvi (rest := []) [.int (mI 0)] X hw (fun ra σa h => c_X12_refuses l D cy ad bs F 0 σ ra σa  h) sh_86 rfl (by decide) rfl km_X12_refuses kv_X12_refuses lm_X12_235 dX12_feed_15 hl.1 rfl rfl (Nat.le_of_ble_eq_true rfl) ⟨by decide, by decide⟩ ⟨Nat.zero_le _, Nat.zero_le _⟩ hf (fun r11 σ12 _ hf H locs hw => ?_)
    exact r_iret X hw dX12_feed_18 hf
def g_X12_end_b25 (F : Nat)  (t0 : Int) (σ : mMem) : mRs := if mw t0 = 0 ∨ mw t0 = 1 then some (t0, σ) else none
set_option maxRecDepth 100000 in
set_option maxHeartbeats 4000000 in
theorem w_X12_end_b25 {p : Program} {l : Launch} {e : Env} {s : State} {m : MethodId} {args : Array Value} {below : List Frame} {meth : Method} {c : Code} {D : va_G} {cy : Nat → ClassId} {ad : Nat → Nat} {bs : Nat} {F : Nat}  (X : mCx p m c cX12_end 2 s args RX12 meth D cy (some .boolean))  {r : Int} {σ' : mMem}   {t0 : Int} {σ : mMem} {H : Heap} {locs : List Loc} {ls : Array Slot} (hw : mWd D cy ad bs true mN σ s.heap H locs) (hl : lv_has ls 2 [(0, .ref (ad 86))]) (hf : g_X12_end_b25 F t0 σ = some (r, σ')) : mGi p l e 2 s m args below meth c D cy ad bs r σ' H locs (F0 m 25 ls [.int (mI t0)]) := by
  obtain ⟨⟨hx, hb, -, -, -⟩, -⟩ := id X
  unfold g_X12_end_b25 at hf
  exact r_zret X hw dX12_end_25 hf
def g_X12_end_b12 (F : Nat)  (σ : mMem) : mRs := mob (g_X12_refuses F 0 σ) (fun r102 σ103 => if mw r102 < 0 then (g_X12_end_b25 F 0 σ103) else (g_X12_end_b25 F 1 σ103))
set_option maxRecDepth 100000 in
set_option maxHeartbeats 4000000 in
theorem w_X12_end_b12 {p : Program} {l : Launch} {e : Env} {s : State} {m : MethodId} {args : Array Value} {below : List Frame} {meth : Method} {c : Code} {D : va_G} {cy : Nat → ClassId} {ad : Nat → Nat} {bs : Nat} {F : Nat}  (X : mCx p m c cX12_end 2 s args RX12 meth D cy (some .boolean))  {r : Int} {σ' : mMem}    {σ : mMem} {H : Heap} {locs : List Loc} {ls : Array Slot} (hw : mWd D cy ad bs true mN σ s.heap H locs) (hl : lv_has ls 2 [(0, .ref (ad 86))]) (hf : g_X12_end_b12 F  σ = some (r, σ')) : mGi p l e 2 s m args below meth c D cy ad bs r σ' H locs (F0 m 12 ls []) := by
  obtain ⟨⟨hx, hb, -, -, -⟩, -⟩ := id X
  unfold g_X12_end_b12 at hf
  refine lv_aload_n hx hb dX12_end_12 rfl (lv_at hl 0 rfl) ?_
  refine lv_iconst (v := mI 0) hx hb dX12_end_13 rfl ?_
  refine r_cvi (rest := []) [.int (mI 0)] X hw (fun ra σa h => c_X12_refuses l D cy ad bs F 0 σ ra σa  h) sh_86 rfl (by decide) rfl km_X12_refuses kv_X12_refuses lm_X12_235 dX12_end_14 hl.1 rfl rfl (Nat.le_of_ble_eq_true rfl) ⟨by decide, by decide⟩ ⟨Nat.zero_le _, Nat.zero_le _⟩ hf (fun r102 σ103 _ hf H locs hw => ?_)
  refine r_if_lt (tgt := 24) X dX12_end_17 (by decide) hf (fun hc hf => ?_) (fun hc hf => ?_)
  · refine lv_iconst (v := mI 0) hx hb dX12_end_24 rfl ?_
    exact w_X12_end_b25 X hw (lv_sub hl [0] rfl) hf
  · refine lv_iconst (v := mI 1) hx hb dX12_end_20 rfl ?_
    refine lv_goto (tgt := 25) hx hb dX12_end_21 (by decide) ?_
    exact w_X12_end_b25 X hw (lv_sub hl [0] rfl) hf
def g_X12_end (F : Nat) (x1 : Int) (σ : mMem) : mRs := if mw x1 < 0 then (g_X12_end_b12 F σ) else (if mw x1 ≤ mw (σ 86 1) then (mlm (mup σ 86 1 x1) (fun σ1 => if mw 1 = 0 ∨ mw 1 = 1 then some (1, σ1) else none)) else (g_X12_end_b12 F σ))
set_option maxRecDepth 100000 in
set_option maxHeartbeats 4000000 in
theorem c_X12_end (l : Launch) (D : va_G) (cy : Nat → ClassId) (ad : Nat → Nat) (bs : Nat) (F : Nat)  (x1 : Int) (σ : mMem) (r : Int) (σ' : mMem)  (hf : g_X12_end F x1 σ = some (r, σ')) : mCi l D cy ad bs yX12_end cX12_end 2 (some .boolean) 2 [.ref (ad 86), .int (mI x1)] σ r σ' := by
  refine mCi.of (lv := [(0, .ref (ad 86)), (1, .int (mI x1))]) km_X12_end.2.2.2.2.2 (Nat.le_of_ble_eq_true rfl) rfl (fun p e s m args below meth c H locs ls X hw hl => ?_)
  obtain ⟨⟨hx, hb, -, -, -⟩, -⟩ := id X
  unfold g_X12_end at hf
  refine lv_iload_n hx hb dX12_end_0 rfl (lv_at hl 1 rfl) ?_
  refine r_if_lt (tgt := 12) X dX12_end_1 (by decide) hf (fun hc hf => ?_) (fun hc hf => ?_)
  · exact w_X12_end_b12 X hw (lv_sub hl [0] rfl) hf
  · refine lv_iload_n hx hb dX12_end_4 rfl (lv_at hl 1 rfl) ?_
    refine lv_aload_n hx hb dX12_end_5 rfl (lv_at hl 0 rfl) ?_
    refine r_geti X hw sh_86 fd_12_1 rfl lf_X12_13 dX12_end_6 ?_
    refine r_icmp_le (tgt := 26) X dX12_end_9 (by decide) hf (fun hc hf => ?_) (fun hc hf => ?_)
    · refine lv_aload_n hx hb dX12_end_26 rfl (lv_at hl 0 rfl) ?_
      refine lv_iload_n hx hb dX12_end_27 rfl (lv_at hl 1 rfl) ?_
      refine r_puti X hw sh_86 fd_12_1 fp_12_1 rfl rfl lf_X12_13 dX12_end_28 (fun H locs hw => ?_)
      refine r_mem hf hw (fun σ1 hw hf => ?_)
      refine lv_iconst (v := mI 1) hx hb dX12_end_31 rfl ?_
      exact r_zret X hw dX12_end_32 hf
    · exact w_X12_end_b12 X hw (lv_sub hl [0] rfl) hf
def g_X12_blame (F : Nat) (x1 x2 : Int) (σ : mMem) : mRs := if mw (σ 86 8) ≤ 0 then (mlm (mup σ 86 8 x1) (fun σ1 => mlm (mup σ1 86 9 x2) (fun σ2 => some (0, σ2)))) else (some (0, σ))
set_option maxRecDepth 100000 in
set_option maxHeartbeats 4000000 in
theorem c_X12_blame (l : Launch) (D : va_G) (cy : Nat → ClassId) (ad : Nat → Nat) (bs : Nat) (F : Nat)  (x1 x2 : Int) (σ : mMem) (r : Int) (σ' : mMem)  (hf : g_X12_blame F x1 x2 σ = some (r, σ')) : mCv l D cy ad bs yX12_blame cX12_blame 3 none 1 [.ref (ad 86), .int (mI x1), .int (mI x2)] σ σ' := by
  refine mCv.of (lv := [(0, .ref (ad 86)), (1, .int (mI x1)), (2, .int (mI x2))]) km_X12_blame.2.2.2.2.2 (Nat.le_of_ble_eq_true rfl) rfl (fun p e s m args below meth c H locs ls X hw hl => ?_)
  obtain ⟨⟨hx, hb, -, -, -⟩, -⟩ := id X
  unfold g_X12_blame at hf
  refine lv_aload_n hx hb dX12_blame_0 rfl (lv_at hl 0 rfl) ?_
  refine r_geti X hw sh_86 fd_12_8 rfl lf_X12_36 dX12_blame_1 ?_
  refine r_if_le (tgt := 8) X dX12_blame_4 (by decide) hf (fun hc hf => ?_) (fun hc hf => ?_)
  · refine lv_aload_n hx hb dX12_blame_8 rfl (lv_at hl 0 rfl) ?_
    refine lv_iload_n hx hb dX12_blame_9 rfl (lv_at hl 1 rfl) ?_
    refine r_puti X hw sh_86 fd_12_8 fp_12_8 rfl rfl lf_X12_36 dX12_blame_10 (fun H locs hw => ?_)
    refine r_mem hf hw (fun σ1 hw hf => ?_)
    refine lv_aload_n hx hb dX12_blame_13 rfl (lv_at hl 0 rfl) ?_
    refine lv_iload_n hx hb dX12_blame_14 rfl (lv_at hl 2 rfl) ?_
    refine r_puti X hw sh_86 fd_12_9 fp_12_9 rfl rfl lf_X12_39 dX12_blame_15 (fun H locs hw => ?_)
    refine r_mem hf hw (fun σ2 hw hf => ?_)
    exact r_vret X hw dX12_blame_18 hf
  · exact r_vret X hw dX12_blame_7 hf
def g_X12_isLetter_b17 (F : Nat)  (t0 : Int) (σ : mMem) : mRs := if mw t0 = 0 ∨ mw t0 = 1 then some (t0, σ) else none
set_option maxRecDepth 100000 in
set_option maxHeartbeats 4000000 in
theorem w_X12_isLetter_b17 {p : Program} {l : Launch} {e : Env} {s : State} {m : MethodId} {args : Array Value} {below : List Frame} {meth : Method} {c : Code} {D : va_G} {cy : Nat → ClassId} {ad : Nat → Nat} {bs : Nat} {F : Nat}  (X : mCx p m c cX12_isLetter 1 s args RX12 meth D cy (some .boolean))  {r : Int} {σ' : mMem}   {t0 : Int} {σ : mMem} {H : Heap} {locs : List Loc} {ls : Array Slot} (hw : mWd D cy ad bs true mN σ s.heap H locs) (hl : lv_has ls 1 []) (hf : g_X12_isLetter_b17 F t0 σ = some (r, σ')) : mGi p l e 1 s m args below meth c D cy ad bs r σ' H locs (F0 m 17 ls [.int (mI t0)]) := by
  obtain ⟨⟨hx, hb, -, -, -⟩, -⟩ := id X
  unfold g_X12_isLetter_b17 at hf
  exact r_zret X hw dX12_isLetter_17 hf
def g_X12_isLetter_b16 (F : Nat)  (σ : mMem) : mRs := g_X12_isLetter_b17 F 0 σ
set_option maxRecDepth 100000 in
set_option maxHeartbeats 4000000 in
theorem w_X12_isLetter_b16 {p : Program} {l : Launch} {e : Env} {s : State} {m : MethodId} {args : Array Value} {below : List Frame} {meth : Method} {c : Code} {D : va_G} {cy : Nat → ClassId} {ad : Nat → Nat} {bs : Nat} {F : Nat}  (X : mCx p m c cX12_isLetter 1 s args RX12 meth D cy (some .boolean))  {r : Int} {σ' : mMem}    {σ : mMem} {H : Heap} {locs : List Loc} {ls : Array Slot} (hw : mWd D cy ad bs true mN σ s.heap H locs) (hl : lv_has ls 1 []) (hf : g_X12_isLetter_b16 F  σ = some (r, σ')) : mGi p l e 1 s m args below meth c D cy ad bs r σ' H locs (F0 m 16 ls []) := by
  obtain ⟨⟨hx, hb, -, -, -⟩, -⟩ := id X
  unfold g_X12_isLetter_b16 at hf
  refine lv_iconst (v := mI 0) hx hb dX12_isLetter_16 rfl ?_
  exact w_X12_isLetter_b17 X hw (lv_sub hl [] rfl) hf
def g_X12_isLetter (F : Nat) (x0 : Int) (σ : mMem) : mRs := if mw x0 < mw 97 then (g_X12_isLetter_b16 F σ) else (if mw 122 < mw x0 then (g_X12_isLetter_b16 F σ) else (g_X12_isLetter_b17 F 1 σ))
set_option maxRecDepth 100000 in
set_option maxHeartbeats 4000000 in
theorem c_X12_isLetter (l : Launch) (D : va_G) (cy : Nat → ClassId) (ad : Nat → Nat) (bs : Nat) (F : Nat)  (x0 : Int) (σ : mMem) (r : Int) (σ' : mMem)  (hf : g_X12_isLetter F x0 σ = some (r, σ')) : mCi l D cy ad bs yX12_isLetter cX12_isLetter 1 (some .boolean) 1 [.int (mI x0)] σ r σ' := by
  refine mCi.of (lv := [(0, .int (mI x0))]) km_X12_isLetter.2.2.2.2.2 (Nat.le_of_ble_eq_true rfl) rfl (fun p e s m args below meth c H locs ls X hw hl => ?_)
  obtain ⟨⟨hx, hb, -, -, -⟩, -⟩ := id X
  unfold g_X12_isLetter at hf
  refine lv_iload_n hx hb dX12_isLetter_0 rfl (lv_at hl 0 rfl) ?_
  refine lv_bipush (v := mI 97) hx hb dX12_isLetter_1 (by decide) ?_
  refine r_icmp_lt (tgt := 16) X dX12_isLetter_3 (by decide) hf (fun hc hf => ?_) (fun hc hf => ?_)
  · exact w_X12_isLetter_b16 X hw (lv_sub hl [] rfl) hf
  · refine lv_iload_n hx hb dX12_isLetter_6 rfl (lv_at hl 0 rfl) ?_
    refine lv_bipush (v := mI 122) hx hb dX12_isLetter_7 (by decide) ?_
    refine r_icmp_gt (tgt := 16) X dX12_isLetter_9 (by decide) hf (fun hc hf => ?_) (fun hc hf => ?_)
    · exact w_X12_isLetter_b16 X hw (lv_sub hl [] rfl) hf
    · refine lv_iconst (v := mI 1) hx hb dX12_isLetter_12 rfl ?_
      refine lv_goto (tgt := 17) hx hb dX12_isLetter_13 (by decide) ?_
      exact w_X12_isLetter_b17 X hw (lv_sub hl [] rfl) hf
def g_X12_isDigit_b17 (F : Nat)  (t0 : Int) (σ : mMem) : mRs := if mw t0 = 0 ∨ mw t0 = 1 then some (t0, σ) else none
set_option maxRecDepth 100000 in
set_option maxHeartbeats 4000000 in
theorem w_X12_isDigit_b17 {p : Program} {l : Launch} {e : Env} {s : State} {m : MethodId} {args : Array Value} {below : List Frame} {meth : Method} {c : Code} {D : va_G} {cy : Nat → ClassId} {ad : Nat → Nat} {bs : Nat} {F : Nat}  (X : mCx p m c cX12_isDigit 1 s args RX12 meth D cy (some .boolean))  {r : Int} {σ' : mMem}   {t0 : Int} {σ : mMem} {H : Heap} {locs : List Loc} {ls : Array Slot} (hw : mWd D cy ad bs true mN σ s.heap H locs) (hl : lv_has ls 1 []) (hf : g_X12_isDigit_b17 F t0 σ = some (r, σ')) : mGi p l e 1 s m args below meth c D cy ad bs r σ' H locs (F0 m 17 ls [.int (mI t0)]) := by
  obtain ⟨⟨hx, hb, -, -, -⟩, -⟩ := id X
  unfold g_X12_isDigit_b17 at hf
  exact r_zret X hw dX12_isDigit_17 hf
def g_X12_isDigit_b16 (F : Nat)  (σ : mMem) : mRs := g_X12_isDigit_b17 F 0 σ
set_option maxRecDepth 100000 in
set_option maxHeartbeats 4000000 in
theorem w_X12_isDigit_b16 {p : Program} {l : Launch} {e : Env} {s : State} {m : MethodId} {args : Array Value} {below : List Frame} {meth : Method} {c : Code} {D : va_G} {cy : Nat → ClassId} {ad : Nat → Nat} {bs : Nat} {F : Nat}  (X : mCx p m c cX12_isDigit 1 s args RX12 meth D cy (some .boolean))  {r : Int} {σ' : mMem}    {σ : mMem} {H : Heap} {locs : List Loc} {ls : Array Slot} (hw : mWd D cy ad bs true mN σ s.heap H locs) (hl : lv_has ls 1 []) (hf : g_X12_isDigit_b16 F  σ = some (r, σ')) : mGi p l e 1 s m args below meth c D cy ad bs r σ' H locs (F0 m 16 ls []) := by
  obtain ⟨⟨hx, hb, -, -, -⟩, -⟩ := id X
  unfold g_X12_isDigit_b16 at hf
  refine lv_iconst (v := mI 0) hx hb dX12_isDigit_16 rfl ?_
  exact w_X12_isDigit_b17 X hw (lv_sub hl [] rfl) hf
def g_X12_isDigit (F : Nat) (x0 : Int) (σ : mMem) : mRs := if mw x0 < mw 48 then (g_X12_isDigit_b16 F σ) else (if mw 57 < mw x0 then (g_X12_isDigit_b16 F σ) else (g_X12_isDigit_b17 F 1 σ))
set_option maxRecDepth 100000 in
set_option maxHeartbeats 4000000 in
theorem c_X12_isDigit (l : Launch) (D : va_G) (cy : Nat → ClassId) (ad : Nat → Nat) (bs : Nat) (F : Nat)  (x0 : Int) (σ : mMem) (r : Int) (σ' : mMem)  (hf : g_X12_isDigit F x0 σ = some (r, σ')) : mCi l D cy ad bs yX12_isDigit cX12_isDigit 1 (some .boolean) 1 [.int (mI x0)] σ r σ' := by
  refine mCi.of (lv := [(0, .int (mI x0))]) km_X12_isDigit.2.2.2.2.2 (Nat.le_of_ble_eq_true rfl) rfl (fun p e s m args below meth c H locs ls X hw hl => ?_)
  obtain ⟨⟨hx, hb, -, -, -⟩, -⟩ := id X
  unfold g_X12_isDigit at hf
  refine lv_iload_n hx hb dX12_isDigit_0 rfl (lv_at hl 0 rfl) ?_
  refine lv_bipush (v := mI 48) hx hb dX12_isDigit_1 (by decide) ?_
  refine r_icmp_lt (tgt := 16) X dX12_isDigit_3 (by decide) hf (fun hc hf => ?_) (fun hc hf => ?_)
  · exact w_X12_isDigit_b16 X hw (lv_sub hl [] rfl) hf
  · refine lv_iload_n hx hb dX12_isDigit_6 rfl (lv_at hl 0 rfl) ?_
    refine lv_bipush (v := mI 57) hx hb dX12_isDigit_7 (by decide) ?_
    refine r_icmp_gt (tgt := 16) X dX12_isDigit_9 (by decide) hf (fun hc hf => ?_) (fun hc hf => ?_)
    · exact w_X12_isDigit_b16 X hw (lv_sub hl [] rfl) hf
    · refine lv_iconst (v := mI 1) hx hb dX12_isDigit_12 rfl ?_
      refine lv_goto (tgt := 17) hx hb dX12_isDigit_13 (by decide) ?_
      exact w_X12_isDigit_b17 X hw (lv_sub hl [] rfl) hf
def g_X12_lex_b17 (F : Nat)  (σ : mMem) : mRs := some (0, σ)
set_option maxRecDepth 100000 in
set_option maxHeartbeats 4000000 in
theorem w_X12_lex_b17 {p : Program} {l : Launch} {e : Env} {s : State} {m : MethodId} {args : Array Value} {below : List Frame} {meth : Method} {c : Code} {D : va_G} {cy : Nat → ClassId} {ad : Nat → Nat} {bs : Nat} {F : Nat}  (X : mCx p m c cX12_lex 1 s args RX12 meth D cy none)  {r : Int} {σ' : mMem}    {σ : mMem} {H : Heap} {locs : List Loc} {ls : Array Slot} (hw : mWd D cy ad bs true mN σ s.heap H locs) (hl : lv_has ls 1 [(0, .ref (ad 86))]) (hf : g_X12_lex_b17 F  σ = some (r, σ')) : mGv p l e 2 s m args below meth c D cy ad bs σ' H locs (F0 m 17 ls []) := by
  obtain ⟨⟨hx, hb, -, -, -⟩, -⟩ := id X
  unfold g_X12_lex_b17 at hf
  exact r_vret X hw dX12_lex_17 hf
def g_X12_lex (F : Nat) (σ : mMem) : mRs := if mw (σ 86 12) = mw (-1) then (g_X12_lex_b17 F σ) else (mob (g_X12_blame F 1 (σ 86 12) σ) (fun r1 σ2 => g_X12_lex_b17 F σ2))
set_option maxRecDepth 100000 in
set_option maxHeartbeats 4000000 in
theorem c_X12_lex (l : Launch) (D : va_G) (cy : Nat → ClassId) (ad : Nat → Nat) (bs : Nat) (F : Nat)   (σ : mMem) (r : Int) (σ' : mMem)  (hf : g_X12_lex F  σ = some (r, σ')) : mCv l D cy ad bs yX12_lex cX12_lex 1 none 2 [.ref (ad 86)] σ σ' := by
  refine mCv.of (lv := [(0, .ref (ad 86))]) km_X12_lex.2.2.2.2.2 (Nat.le_of_ble_eq_true rfl) rfl (fun p e s m args below meth c H locs ls X hw hl => ?_)
  obtain ⟨⟨hx, hb, -, -, -⟩, -⟩ := id X
  unfold g_X12_lex at hf
  refine lv_aload_n hx hb dX12_lex_0 rfl (lv_at hl 0 rfl) ?_
  refine r_geti X hw sh_86 fd_12_12 rfl lf_X12_48 dX12_lex_1 ?_
  refine lv_iconst (v := mI (-1)) hx hb dX12_lex_4 rfl ?_
  refine r_icmp_eq (tgt := 17) X dX12_lex_5 (by decide) hf (fun hc hf => ?_) (fun hc hf => ?_)
  · exact w_X12_lex_b17 X hw (lv_sub hl [0] rfl) hf
  · refine lv_aload_n hx hb dX12_lex_8 rfl (lv_at hl 0 rfl) ?_
    refine lv_iconst (v := mI 1) hx hb dX12_lex_9 rfl ?_
    refine lv_aload_n hx hb dX12_lex_10 rfl (lv_at hl 0 rfl) ?_
    refine r_geti X hw sh_86 fd_12_12 rfl lf_X12_48 dX12_lex_11 ?_
    refine r_cvv (rest := []) [.int (mI 1), .int (mI (σ 86 12))] X hw (fun ra σa h => c_X12_blame l D cy ad bs F 1 (σ 86 12) σ ra σa  h) sh_86 rfl (by decide) rfl km_X12_blame kv_X12_blame lm_X12_242 dX12_lex_14 hl.1 rfl rfl (Nat.le_of_ble_eq_true rfl) ⟨by decide, by decide⟩ ⟨Nat.zero_le _, Nat.zero_le _⟩ hf (fun r1 σ2 _ hf H locs hw => ?_)
    exact w_X12_lex_b17 X hw (lv_sub hl [0] rfl) hf
def g_X12_ahead_b334 (F : Nat)  (x1 : Int) (σ : mMem) : mRs := mlm (mup σ 86 5 x1) (fun σ1125 => some (0, σ1125))
set_option maxRecDepth 100000 in
set_option maxHeartbeats 4000000 in
theorem w_X12_ahead_b334 {p : Program} {l : Launch} {e : Env} {s : State} {m : MethodId} {args : Array Value} {below : List Frame} {meth : Method} {c : Code} {D : va_G} {cy : Nat → ClassId} {ad : Nat → Nat} {bs : Nat} {F : Nat}  (X : mCx p m c cX12_ahead 6 s args RX12 meth D cy none)  {r : Int} {σ' : mMem}   {x1 : Int} {σ : mMem} {H : Heap} {locs : List Loc} {ls : Array Slot} (hw : mWd D cy ad bs true mN σ s.heap H locs) (hl : lv_has ls 6 [(0, .ref (ad 86)), (1, .int (mI x1))]) (hf : g_X12_ahead_b334 F x1 σ = some (r, σ')) : mGv p l e 2 s m args below meth c D cy ad bs σ' H locs (F0 m 334 ls []) := by
  obtain ⟨⟨hx, hb, -, -, -⟩, -⟩ := id X
  unfold g_X12_ahead_b334 at hf
  refine lv_aload_n hx hb dX12_ahead_334 rfl (lv_at hl 0 rfl) ?_
  refine lv_iload_n hx hb dX12_ahead_335 rfl (lv_at hl 1 rfl) ?_
  refine r_puti X hw sh_86 fd_12_5 fp_12_5 rfl rfl lf_X12_26 dX12_ahead_336 (fun H locs hw => ?_)
  refine r_mem hf hw (fun σ1125 hw hf => ?_)
  exact r_vret X hw dX12_ahead_339 hf
def g_X12_ahead_b325 (F : Nat) (k204 : Int → Int → Int → Int → Int → mMem → mRs) (x1 x2 x3 x4 x5 : Int) (σ : mMem) : mRs := k204 (x1 + 1) x2 x3 x4 (x5 + 1) σ
set_option maxRecDepth 100000 in
set_option maxHeartbeats 4000000 in
theorem w_X12_ahead_b325 {p : Program} {l : Launch} {e : Env} {s : State} {m : MethodId} {args : Array Value} {below : List Frame} {meth : Method} {c : Code} {D : va_G} {cy : Nat → ClassId} {ad : Nat → Nat} {bs : Nat} {F : Nat}  (X : mCx p m c cX12_ahead 6 s args RX12 meth D cy none)  {r : Int} {σ' : mMem} {k204 : Int → Int → Int → Int → Int → mMem → mRs} (hk204 : ∀ (x1 x2 x3 x4 x5 : Int) (σ : mMem) (H : Heap) (locs : List Loc) (ls : Array Slot), mWd D cy ad bs true mN σ s.heap H locs → lv_has ls 6 [(0, .ref (ad 86)), (1, .int (mI x1)), (2, .int (mI x2)), (3, .int (mI x3)), (4, .int (mI x4)), (5, .int (mI x5))] → k204 x1 x2 x3 x4 x5 σ = some (r, σ') → mGv p l e 2 s m args below meth c D cy ad bs σ' H locs (F0 m 204 ls [])) {x1 x2 x3 x4 x5 : Int} {σ : mMem} {H : Heap} {locs : List Loc} {ls : Array Slot} (hw : mWd D cy ad bs true mN σ s.heap H locs) (hl : lv_has ls 6 [(0, .ref (ad 86)), (1, .int (mI x1)), (2, .int (mI x2)), (3, .int (mI x3)), (4, .int (mI x4)), (5, .int (mI x5))]) (hf : g_X12_ahead_b325 F k204 x1 x2 x3 x4 x5 σ = some (r, σ')) : mGv p l e 2 s m args below meth c D cy ad bs σ' H locs (F0 m 325 ls []) := by
  obtain ⟨⟨hx, hb, -, -, -⟩, -⟩ := id X
  unfold g_X12_ahead_b325 at hf
  refine lv_iinc (v := mI (x5 + 1)) (lv' := [(5, .int (mI (x5 + 1))), (0, .ref (ad 86)), (1, .int (mI x1)), (2, .int (mI x2)), (3, .int (mI x3)), (4, .int (mI x4))]) hx hb dX12_ahead_325 hl (k := 5) rfl (mI_add _ _) (by decide) rfl (fun ls hl => ?_)
  refine lv_iinc (v := mI (x1 + 1)) (lv' := [(1, .int (mI (x1 + 1))), (5, .int (mI (x5 + 1))), (0, .ref (ad 86)), (2, .int (mI x2)), (3, .int (mI x3)), (4, .int (mI x4))]) hx hb dX12_ahead_328 hl (k := 2) rfl (mI_add _ _) (by decide) rfl (fun ls hl => ?_)
  refine lv_goto (tgt := 204) hx hb dX12_ahead_331 (by decide) ?_
  exact hk204 (x1 + 1) x2 x3 x4 (x5 + 1) σ _ _ _ hw (lv_sub hl [2, 0, 3, 4, 5, 1] rfl) hf
def g_X12_ahead_b293 (F : Nat) (k204 : Int → Int → Int → Int → Int → mMem → mRs) (x1 x2 x3 x4 x5 : Int) (σ : mMem) : mRs := if mw x4 ≤ mw x5 then (g_X12_ahead_b325 F k204 x1 x2 x3 x4 x5 σ) else (if mw x3 = 0 then (g_X12_ahead_b325 F k204 x1 x2 x3 x4 x5 σ) else (if 0 ≤ mw x1 ∧ mw x1 < (1800 : Int) then mlm (mup σ 86 6 (((10 * (σ 86 6)) + (σ 87 (mw x1).toNat)) - 48)) (fun σ1428 => g_X12_ahead_b325 F k204 x1 x2 x3 x4 x5 σ1428) else none))
set_option maxRecDepth 100000 in
set_option maxHeartbeats 4000000 in
theorem w_X12_ahead_b293 {p : Program} {l : Launch} {e : Env} {s : State} {m : MethodId} {args : Array Value} {below : List Frame} {meth : Method} {c : Code} {D : va_G} {cy : Nat → ClassId} {ad : Nat → Nat} {bs : Nat} {F : Nat}  (X : mCx p m c cX12_ahead 6 s args RX12 meth D cy none)  {r : Int} {σ' : mMem} {k204 : Int → Int → Int → Int → Int → mMem → mRs} (hk204 : ∀ (x1 x2 x3 x4 x5 : Int) (σ : mMem) (H : Heap) (locs : List Loc) (ls : Array Slot), mWd D cy ad bs true mN σ s.heap H locs → lv_has ls 6 [(0, .ref (ad 86)), (1, .int (mI x1)), (2, .int (mI x2)), (3, .int (mI x3)), (4, .int (mI x4)), (5, .int (mI x5))] → k204 x1 x2 x3 x4 x5 σ = some (r, σ') → mGv p l e 2 s m args below meth c D cy ad bs σ' H locs (F0 m 204 ls [])) {x1 x2 x3 x4 x5 : Int} {σ : mMem} {H : Heap} {locs : List Loc} {ls : Array Slot} (hw : mWd D cy ad bs true mN σ s.heap H locs) (hl : lv_has ls 6 [(0, .ref (ad 86)), (1, .int (mI x1)), (2, .int (mI x2)), (3, .int (mI x3)), (4, .int (mI x4)), (5, .int (mI x5))]) (hf : g_X12_ahead_b293 F k204 x1 x2 x3 x4 x5 σ = some (r, σ')) : mGv p l e 2 s m args below meth c D cy ad bs σ' H locs (F0 m 293 ls []) := by
  obtain ⟨⟨hx, hb, -, -, -⟩, -⟩ := id X
  unfold g_X12_ahead_b293 at hf
  refine lv_iload hx hb dX12_ahead_293 (lv_at hl 5 rfl) ?_
  refine lv_iload hx hb dX12_ahead_295 (lv_at hl 4 rfl) ?_
  refine r_icmp_ge (tgt := 325) X dX12_ahead_297 (by decide) hf (fun hc hf => ?_) (fun hc hf => ?_)
  · exact w_X12_ahead_b325 X hk204 hw (lv_sub hl [0, 1, 2, 3, 4, 5] rfl) hf
  · refine lv_iload_n hx hb dX12_ahead_300 rfl (lv_at hl 3 rfl) ?_
    refine r_if_eq (tgt := 325) X dX12_ahead_301 (by decide) hf (fun hc hf => ?_) (fun hc hf => ?_)
    · exact w_X12_ahead_b325 X hk204 hw (lv_sub hl [0, 1, 2, 3, 4, 5] rfl) hf
    · refine lv_aload_n hx hb dX12_ahead_304 rfl (lv_at hl 0 rfl) ?_
      refine lv_bipush (v := mI 10) hx hb dX12_ahead_305 (by decide) ?_
      refine lv_aload_n hx hb dX12_ahead_307 rfl (lv_at hl 0 rfl) ?_
      refine r_geti X hw sh_86 fd_12_6 rfl lf_X12_29 dX12_ahead_308 ?_
      refine r_imul X dX12_ahead_311 ?_
      refine lv_aload_n hx hb dX12_ahead_312 rfl (lv_at hl 0 rfl) ?_
      refine r_getr 87 X hw sh_86 fd_12_0 rfl rfl lf_X12_7 dX12_ahead_313 ?_
      refine lv_iload_n hx hb dX12_ahead_316 rfl (lv_at hl 1 rfl) ?_
      refine r_iald (1800 : Int) rfl X hw sh_87 dX12_ahead_317 hf (fun hf => ?_)
      refine r_iadd X dX12_ahead_318 ?_
      refine lv_bipush (v := mI 48) hx hb dX12_ahead_319 (by decide) ?_
      refine r_isub X dX12_ahead_321 ?_
      refine r_puti X hw sh_86 fd_12_6 fp_12_6 rfl rfl lf_X12_29 dX12_ahead_322 (fun H locs hw => ?_)
      refine r_mem hf hw (fun σ1428 hw hf => ?_)
      exact w_X12_ahead_b325 X hk204 hw (lv_sub hl [0, 1, 2, 3, 4, 5] rfl) hf
def g_X12_ahead_b263 (F : Nat) (k204 : Int → Int → Int → Int → Int → mMem → mRs) (x1 x2 x3 x4 x5 : Int) (σ : mMem) : mRs := if mw x4 ≤ mw x5 then (g_X12_ahead_b293 F k204 x1 x2 x3 x4 x5 σ) else (if mw x2 = 0 then (g_X12_ahead_b293 F k204 x1 x2 x3 x4 x5 σ) else (if 0 ≤ mw x1 ∧ mw x1 < (1800 : Int) then mlm (mup σ 86 7 (mlor (mlshl (σ 86 7) 8) (mw (σ 87 (mw x1).toNat)))) (fun σ1327 => g_X12_ahead_b293 F k204 x1 x2 x3 x4 x5 σ1327) else none))
set_option maxRecDepth 100000 in
set_option maxHeartbeats 4000000 in
theorem w_X12_ahead_b263 {p : Program} {l : Launch} {e : Env} {s : State} {m : MethodId} {args : Array Value} {below : List Frame} {meth : Method} {c : Code} {D : va_G} {cy : Nat → ClassId} {ad : Nat → Nat} {bs : Nat} {F : Nat}  (X : mCx p m c cX12_ahead 6 s args RX12 meth D cy none)  {r : Int} {σ' : mMem} {k204 : Int → Int → Int → Int → Int → mMem → mRs} (hk204 : ∀ (x1 x2 x3 x4 x5 : Int) (σ : mMem) (H : Heap) (locs : List Loc) (ls : Array Slot), mWd D cy ad bs true mN σ s.heap H locs → lv_has ls 6 [(0, .ref (ad 86)), (1, .int (mI x1)), (2, .int (mI x2)), (3, .int (mI x3)), (4, .int (mI x4)), (5, .int (mI x5))] → k204 x1 x2 x3 x4 x5 σ = some (r, σ') → mGv p l e 2 s m args below meth c D cy ad bs σ' H locs (F0 m 204 ls [])) {x1 x2 x3 x4 x5 : Int} {σ : mMem} {H : Heap} {locs : List Loc} {ls : Array Slot} (hw : mWd D cy ad bs true mN σ s.heap H locs) (hl : lv_has ls 6 [(0, .ref (ad 86)), (1, .int (mI x1)), (2, .int (mI x2)), (3, .int (mI x3)), (4, .int (mI x4)), (5, .int (mI x5))]) (hf : g_X12_ahead_b263 F k204 x1 x2 x3 x4 x5 σ = some (r, σ')) : mGv p l e 2 s m args below meth c D cy ad bs σ' H locs (F0 m 263 ls []) := by
  obtain ⟨⟨hx, hb, -, -, -⟩, -⟩ := id X
  unfold g_X12_ahead_b263 at hf
  refine lv_iload hx hb dX12_ahead_263 (lv_at hl 5 rfl) ?_
  refine lv_iload hx hb dX12_ahead_265 (lv_at hl 4 rfl) ?_
  refine r_icmp_ge (tgt := 293) X dX12_ahead_267 (by decide) hf (fun hc hf => ?_) (fun hc hf => ?_)
  · exact w_X12_ahead_b293 X hk204 hw (lv_sub hl [0, 1, 2, 3, 4, 5] rfl) hf
  · refine lv_iload_n hx hb dX12_ahead_270 rfl (lv_at hl 2 rfl) ?_
    refine r_if_eq (tgt := 293) X dX12_ahead_271 (by decide) hf (fun hc hf => ?_) (fun hc hf => ?_)
    · exact w_X12_ahead_b293 X hk204 hw (lv_sub hl [0, 1, 2, 3, 4, 5] rfl) hf
    · refine lv_aload_n hx hb dX12_ahead_274 rfl (lv_at hl 0 rfl) ?_
      refine lv_aload_n hx hb dX12_ahead_275 rfl (lv_at hl 0 rfl) ?_
      refine r_getl X hw sh_86 fd_12_7 rfl lf_X12_32 dX12_ahead_276 ?_
      refine lv_bipush (v := mI 8) hx hb dX12_ahead_279 (by decide) ?_
      refine r_lshl X dX12_ahead_281 ?_
      refine lv_aload_n hx hb dX12_ahead_282 rfl (lv_at hl 0 rfl) ?_
      refine r_getr 87 X hw sh_86 fd_12_0 rfl rfl lf_X12_7 dX12_ahead_283 ?_
      refine lv_iload_n hx hb dX12_ahead_286 rfl (lv_at hl 1 rfl) ?_
      refine r_iald (1800 : Int) rfl X hw sh_87 dX12_ahead_287 hf (fun hf => ?_)
      refine r_i2l X dX12_ahead_288 ?_
      refine r_lor X dX12_ahead_289 ?_
      refine r_putl X hw sh_86 fd_12_7 fp_12_7 rfl rfl lf_X12_32 dX12_ahead_290 (fun H locs hw => ?_)
      refine r_mem hf hw (fun σ1327 hw hf => ?_)
      exact w_X12_ahead_b293 X hk204 hw (lv_sub hl [0, 1, 2, 3, 4, 5] rfl) hf
def g_X12_ahead_b243 (F : Nat) (k204 : Int → Int → Int → Int → Int → mMem → mRs) (x1 x2 x3 x4 x5 : Int) (σ : mMem) : mRs := if ¬ mw x5 = mw x4 then (g_X12_ahead_b263 F k204 x1 x2 x3 x4 x5 σ) else (if ¬ mw (σ 86 12) = mw (-1) then (g_X12_ahead_b263 F k204 x1 x2 x3 x4 x5 σ) else (mlm (mup σ 86 12 x1) (fun σ1226 => g_X12_ahead_b263 F k204 x1 x2 x3 x4 x5 σ1226)))
set_option maxRecDepth 100000 in
set_option maxHeartbeats 4000000 in
theorem w_X12_ahead_b243 {p : Program} {l : Launch} {e : Env} {s : State} {m : MethodId} {args : Array Value} {below : List Frame} {meth : Method} {c : Code} {D : va_G} {cy : Nat → ClassId} {ad : Nat → Nat} {bs : Nat} {F : Nat}  (X : mCx p m c cX12_ahead 6 s args RX12 meth D cy none)  {r : Int} {σ' : mMem} {k204 : Int → Int → Int → Int → Int → mMem → mRs} (hk204 : ∀ (x1 x2 x3 x4 x5 : Int) (σ : mMem) (H : Heap) (locs : List Loc) (ls : Array Slot), mWd D cy ad bs true mN σ s.heap H locs → lv_has ls 6 [(0, .ref (ad 86)), (1, .int (mI x1)), (2, .int (mI x2)), (3, .int (mI x3)), (4, .int (mI x4)), (5, .int (mI x5))] → k204 x1 x2 x3 x4 x5 σ = some (r, σ') → mGv p l e 2 s m args below meth c D cy ad bs σ' H locs (F0 m 204 ls [])) {x1 x2 x3 x4 x5 : Int} {σ : mMem} {H : Heap} {locs : List Loc} {ls : Array Slot} (hw : mWd D cy ad bs true mN σ s.heap H locs) (hl : lv_has ls 6 [(0, .ref (ad 86)), (1, .int (mI x1)), (2, .int (mI x2)), (3, .int (mI x3)), (4, .int (mI x4)), (5, .int (mI x5))]) (hf : g_X12_ahead_b243 F k204 x1 x2 x3 x4 x5 σ = some (r, σ')) : mGv p l e 2 s m args below meth c D cy ad bs σ' H locs (F0 m 243 ls []) := by
  obtain ⟨⟨hx, hb, -, -, -⟩, -⟩ := id X
  unfold g_X12_ahead_b243 at hf
  refine lv_iload hx hb dX12_ahead_243 (lv_at hl 5 rfl) ?_
  refine lv_iload hx hb dX12_ahead_245 (lv_at hl 4 rfl) ?_
  refine r_icmp_ne (tgt := 263) X dX12_ahead_247 (by decide) hf (fun hc hf => ?_) (fun hc hf => ?_)
  · exact w_X12_ahead_b263 X hk204 hw (lv_sub hl [0, 1, 2, 3, 4, 5] rfl) hf
  · refine lv_aload_n hx hb dX12_ahead_250 rfl (lv_at hl 0 rfl) ?_
    refine r_geti X hw sh_86 fd_12_12 rfl lf_X12_48 dX12_ahead_251 ?_
    refine lv_iconst (v := mI (-1)) hx hb dX12_ahead_254 rfl ?_
    refine r_icmp_ne (tgt := 263) X dX12_ahead_255 (by decide) hf (fun hc hf => ?_) (fun hc hf => ?_)
    · exact w_X12_ahead_b263 X hk204 hw (lv_sub hl [0, 1, 2, 3, 4, 5] rfl) hf
    · refine lv_aload_n hx hb dX12_ahead_258 rfl (lv_at hl 0 rfl) ?_
      refine lv_iload_n hx hb dX12_ahead_259 rfl (lv_at hl 1 rfl) ?_
      refine r_puti X hw sh_86 fd_12_12 fp_12_12 rfl rfl lf_X12_48 dX12_ahead_260 (fun H locs hw => ?_)
      refine r_mem hf hw (fun σ1226 hw hf => ?_)
      exact w_X12_ahead_b263 X hk204 hw (lv_sub hl [0, 1, 2, 3, 4, 5] rfl) hf
def g_X12_ahead_h204 (F : Nat)  : Nat → Int → Int → Int → Int → Int → mMem → mRs
  | 0, _, _, _, _, _, _ => none
  | n + 1, x1, x2, x3, x4, x5, σ => if mw (σ 86 2) ≤ mw x1 then (g_X12_ahead_b334 F x1 σ) else (if mw x2 = 0 then (if 0 ≤ mw x1 ∧ mw x1 < (1800 : Int) then mob (g_X12_isDigit F (σ 87 (mw x1).toNat) σ) (fun r1021 σ1022 => if mw r1021 = 0 then (g_X12_ahead_b334 F x1 σ1022) else (g_X12_ahead_b243 F (g_X12_ahead_h204 F n) x1 x2 x3 x4 x5 σ1022)) else none) else (if 0 ≤ mw x1 ∧ mw x1 < (1800 : Int) then mob (g_X12_isLetter F (σ 87 (mw x1).toNat) σ) (fun r1023 σ1024 => if mw r1023 = 0 then (g_X12_ahead_b334 F x1 σ1024) else (g_X12_ahead_b243 F (g_X12_ahead_h204 F n) x1 x2 x3 x4 x5 σ1024)) else none))
set_option maxRecDepth 100000 in
set_option maxHeartbeats 4000000 in
theorem w_X12_ahead_h204 {p : Program} {l : Launch} {e : Env} {s : State} {m : MethodId} {args : Array Value} {below : List Frame} {meth : Method} {c : Code} {D : va_G} {cy : Nat → ClassId} {ad : Nat → Nat} {bs : Nat} {F : Nat}  (X : mCx p m c cX12_ahead 6 s args RX12 meth D cy none)  {r : Int} {σ' : mMem}   (n : Nat) : ∀ {x1 x2 x3 x4 x5 : Int} {σ : mMem} {H : Heap} {locs : List Loc} {ls : Array Slot} (_ : mWd D cy ad bs true mN σ s.heap H locs) (_ : lv_has ls 6 [(0, .ref (ad 86)), (1, .int (mI x1)), (2, .int (mI x2)), (3, .int (mI x3)), (4, .int (mI x4)), (5, .int (mI x5))]) (_ : g_X12_ahead_h204 F n x1 x2 x3 x4 x5 σ = some (r, σ')), mGv p l e 2 s m args below meth c D cy ad bs σ' H locs (F0 m 204 ls []) := by
  obtain ⟨⟨hx, hb, -, -, -⟩, -⟩ := id X
  induction n with
  | zero =>
    intro x1 x2 x3 x4 x5 σ H locs ls hw hl hf
    unfold g_X12_ahead_h204 at hf
    cases hf
  | succ n ih =>
    have hk204 : ∀ (x1 x2 x3 x4 x5 : Int) (σ : mMem) (H : Heap) (locs : List Loc) (ls : Array Slot), mWd D cy ad bs true mN σ s.heap H locs → lv_has ls 6 [(0, .ref (ad 86)), (1, .int (mI x1)), (2, .int (mI x2)), (3, .int (mI x3)), (4, .int (mI x4)), (5, .int (mI x5))] → g_X12_ahead_h204 F n x1 x2 x3 x4 x5 σ = some (r, σ') → mGv p l e 2 s m args below meth c D cy ad bs σ' H locs (F0 m 204 ls []) := fun x1 x2 x3 x4 x5 σ H locs ls hw hl hf => ih hw hl hf
    intro x1 x2 x3 x4 x5 σ H locs ls hw hl hf
    unfold g_X12_ahead_h204 at hf
    refine lv_iload_n hx hb dX12_ahead_204 rfl (lv_at hl 1 rfl) ?_
    refine lv_aload_n hx hb dX12_ahead_205 rfl (lv_at hl 0 rfl) ?_
    refine r_geti X hw sh_86 fd_12_2 rfl lf_X12_17 dX12_ahead_206 ?_
    refine r_icmp_ge (tgt := 334) X dX12_ahead_209 (by decide) hf (fun hc hf => ?_) (fun hc hf => ?_)
    · exact w_X12_ahead_b334 X hw (lv_sub hl [0, 1] rfl) hf
    · refine lv_iload_n hx hb dX12_ahead_212 rfl (lv_at hl 2 rfl) ?_
      refine r_if_eq (tgt := 231) X dX12_ahead_213 (by decide) hf (fun hc hf => ?_) (fun hc hf => ?_)
      · refine lv_aload_n hx hb dX12_ahead_231 rfl (lv_at hl 0 rfl) ?_
        refine r_getr 87 X hw sh_86 fd_12_0 rfl rfl lf_X12_7 dX12_ahead_232 ?_
        refine lv_iload_n hx hb dX12_ahead_235 rfl (lv_at hl 1 rfl) ?_
        refine r_iald (1800 : Int) rfl X hw sh_87 dX12_ahead_236 hf (fun hf => ?_)
        refine r_csi (rest := []) [.int (mI (σ 87 (mw x1).toNat))] X hw (fun ra σa h => c_X12_isDigit l D cy ad bs F (σ 87 (mw x1).toNat) σ ra σa  h) km_X12_isDigit ks_X12_isDigit lm_X12_250 dX12_ahead_237 hl.1 rfl rfl (Nat.le_of_ble_eq_true rfl) ⟨by decide, by decide⟩ ⟨Nat.zero_le _, Nat.zero_le _⟩ hf (fun r1021 σ1022 _ hf H locs hw => ?_)
        refine r_if_eq (tgt := 334) X dX12_ahead_240 (by decide) hf (fun hc hf => ?_) (fun hc hf => ?_)
        · exact w_X12_ahead_b334 X hw (lv_sub hl [0, 1] rfl) hf
        · exact w_X12_ahead_b243 X hk204 hw (lv_sub hl [0, 1, 2, 3, 4, 5] rfl) hf
      · refine lv_aload_n hx hb dX12_ahead_216 rfl (lv_at hl 0 rfl) ?_
        refine r_getr 87 X hw sh_86 fd_12_0 rfl rfl lf_X12_7 dX12_ahead_217 ?_
        refine lv_iload_n hx hb dX12_ahead_220 rfl (lv_at hl 1 rfl) ?_
        refine r_iald (1800 : Int) rfl X hw sh_87 dX12_ahead_221 hf (fun hf => ?_)
        refine r_csi (rest := []) [.int (mI (σ 87 (mw x1).toNat))] X hw (fun ra σa h => c_X12_isLetter l D cy ad bs F (σ 87 (mw x1).toNat) σ ra σa  h) km_X12_isLetter ks_X12_isLetter lm_X12_246 dX12_ahead_222 hl.1 rfl rfl (Nat.le_of_ble_eq_true rfl) ⟨by decide, by decide⟩ ⟨Nat.zero_le _, Nat.zero_le _⟩ hf (fun r1023 σ1024 _ hf H locs hw => ?_)
        refine r_if_eq (tgt := 334) X dX12_ahead_225 (by decide) hf (fun hc hf => ?_) (fun hc hf => ?_)
        · exact w_X12_ahead_b334 X hw (lv_sub hl [0, 1] rfl) hf
        · refine lv_goto (tgt := 243) hx hb dX12_ahead_228 (by decide) ?_
          exact w_X12_ahead_b243 X hk204 hw (lv_sub hl [0, 1, 2, 3, 4, 5] rfl) hf
def g_X12_ahead_b199 (F : Nat)  (x1 x2 x3 t0 : Int) (σ : mMem) : mRs := g_X12_ahead_h204 F F x1 x2 x3 t0 0 σ
set_option maxRecDepth 100000 in
set_option maxHeartbeats 4000000 in
theorem w_X12_ahead_b199 {p : Program} {l : Launch} {e : Env} {s : State} {m : MethodId} {args : Array Value} {below : List Frame} {meth : Method} {c : Code} {D : va_G} {cy : Nat → ClassId} {ad : Nat → Nat} {bs : Nat} {F : Nat}  (X : mCx p m c cX12_ahead 6 s args RX12 meth D cy none)  {r : Int} {σ' : mMem}   {x1 x2 x3 t0 : Int} {σ : mMem} {H : Heap} {locs : List Loc} {ls : Array Slot} (hw : mWd D cy ad bs true mN σ s.heap H locs) (hl : lv_has ls 6 [(0, .ref (ad 86)), (1, .int (mI x1)), (2, .int (mI x2)), (3, .int (mI x3))]) (hf : g_X12_ahead_b199 F x1 x2 x3 t0 σ = some (r, σ')) : mGv p l e 2 s m args below meth c D cy ad bs σ' H locs (F0 m 199 ls [.int (mI t0)]) := by
  obtain ⟨⟨hx, hb, -, -, -⟩, -⟩ := id X
  unfold g_X12_ahead_b199 at hf
  refine lv_istore (lv' := [(4, .int (mI t0)), (0, .ref (ad 86)), (1, .int (mI x1)), (2, .int (mI x2)), (3, .int (mI x3))]) hx hb dX12_ahead_199 hl (by decide) rfl (fun ls hl => ?_)
  refine lv_iconst (v := mI 0) hx hb dX12_ahead_201 rfl ?_
  refine lv_istore (lv' := [(5, .int (mI 0)), (4, .int (mI t0)), (0, .ref (ad 86)), (1, .int (mI x1)), (2, .int (mI x2)), (3, .int (mI x3))]) hx hb dX12_ahead_202 hl (by decide) rfl (fun ls hl => ?_)
  exact w_X12_ahead_h204 X _ hw (lv_sub hl [2, 3, 4, 5, 1, 0] rfl) hf
def g_X12_ahead_b186 (F : Nat)  (x1 x2 x3 t0 : Int) (σ : mMem) : mRs := mlm (mup σ 86 3 t0) (fun σ820 => if mw x2 = 0 then (g_X12_ahead_b199 F x1 x2 x3 4 σ820) else (g_X12_ahead_b199 F x1 x2 x3 6 σ820))
set_option maxRecDepth 100000 in
set_option maxHeartbeats 4000000 in
theorem w_X12_ahead_b186 {p : Program} {l : Launch} {e : Env} {s : State} {m : MethodId} {args : Array Value} {below : List Frame} {meth : Method} {c : Code} {D : va_G} {cy : Nat → ClassId} {ad : Nat → Nat} {bs : Nat} {F : Nat}  (X : mCx p m c cX12_ahead 6 s args RX12 meth D cy none)  {r : Int} {σ' : mMem}   {x1 x2 x3 t0 : Int} {σ : mMem} {H : Heap} {locs : List Loc} {ls : Array Slot} (hw : mWd D cy ad bs true mN σ s.heap H locs) (hl : lv_has ls 6 [(0, .ref (ad 86)), (1, .int (mI x1)), (2, .int (mI x2)), (3, .int (mI x3))]) (hf : g_X12_ahead_b186 F x1 x2 x3 t0 σ = some (r, σ')) : mGv p l e 2 s m args below meth c D cy ad bs σ' H locs (F0 m 186 ls [.int (mI t0), .ref (ad 86)]) := by
  obtain ⟨⟨hx, hb, -, -, -⟩, -⟩ := id X
  unfold g_X12_ahead_b186 at hf
  refine r_puti X hw sh_86 fd_12_3 fp_12_3 rfl rfl lf_X12_20 dX12_ahead_186 (fun H locs hw => ?_)
  refine r_mem hf hw (fun σ820 hw hf => ?_)
  refine lv_iload_n hx hb dX12_ahead_189 rfl (lv_at hl 2 rfl) ?_
  refine r_if_eq (tgt := 198) X dX12_ahead_190 (by decide) hf (fun hc hf => ?_) (fun hc hf => ?_)
  · refine lv_iconst (v := mI 4) hx hb dX12_ahead_198 rfl ?_
    exact w_X12_ahead_b199 X hw (lv_sub hl [0, 1, 2, 3] rfl) hf
  · refine lv_bipush (v := mI 6) hx hb dX12_ahead_193 (by decide) ?_
    refine lv_goto (tgt := 199) hx hb dX12_ahead_195 (by decide) ?_
    exact w_X12_ahead_b199 X hw (lv_sub hl [0, 1, 2, 3] rfl) hf
def g_X12_ahead_b176 (F : Nat)  (x1 x2 x3 : Int) (σ : mMem) : mRs := if mw x2 = 0 then (g_X12_ahead_b186 F x1 x2 x3 2 σ) else (g_X12_ahead_b186 F x1 x2 x3 1 σ)
set_option maxRecDepth 100000 in
set_option maxHeartbeats 4000000 in
theorem w_X12_ahead_b176 {p : Program} {l : Launch} {e : Env} {s : State} {m : MethodId} {args : Array Value} {below : List Frame} {meth : Method} {c : Code} {D : va_G} {cy : Nat → ClassId} {ad : Nat → Nat} {bs : Nat} {F : Nat}  (X : mCx p m c cX12_ahead 6 s args RX12 meth D cy none)  {r : Int} {σ' : mMem}   {x1 x2 x3 : Int} {σ : mMem} {H : Heap} {locs : List Loc} {ls : Array Slot} (hw : mWd D cy ad bs true mN σ s.heap H locs) (hl : lv_has ls 6 [(0, .ref (ad 86)), (1, .int (mI x1)), (2, .int (mI x2)), (3, .int (mI x3))]) (hf : g_X12_ahead_b176 F x1 x2 x3 σ = some (r, σ')) : mGv p l e 2 s m args below meth c D cy ad bs σ' H locs (F0 m 176 ls []) := by
  obtain ⟨⟨hx, hb, -, -, -⟩, -⟩ := id X
  unfold g_X12_ahead_b176 at hf
  refine lv_aload_n hx hb dX12_ahead_176 rfl (lv_at hl 0 rfl) ?_
  refine lv_iload_n hx hb dX12_ahead_177 rfl (lv_at hl 2 rfl) ?_
  refine r_if_eq (tgt := 185) X dX12_ahead_178 (by decide) hf (fun hc hf => ?_) (fun hc hf => ?_)
  · refine lv_iconst (v := mI 2) hx hb dX12_ahead_185 rfl ?_
    exact w_X12_ahead_b186 X hw (lv_sub hl [0, 1, 2, 3] rfl) hf
  · refine lv_iconst (v := mI 1) hx hb dX12_ahead_181 rfl ?_
    refine lv_goto (tgt := 186) hx hb dX12_ahead_182 (by decide) ?_
    exact w_X12_ahead_b186 X hw (lv_sub hl [0, 1, 2, 3] rfl) hf
def g_X12_ahead_b135 (F : Nat)  (x1 x2 x3 : Int) (σ : mMem) : mRs := mlm (mup σ 86 6 0) (fun σ410 => mlm (mup σ410 86 7 0) (fun σ411 => mlm (mup σ411 86 3 3) (fun σ412 => mlm (mup σ412 86 5 (x1 + 1)) (fun σ413 => if ¬ mw x2 = 0 then (g_X12_ahead_b176 F x1 x2 x3 σ413) else (if ¬ mw x3 = 0 then (g_X12_ahead_b176 F x1 x2 x3 σ413) else (if 0 ≤ mw x1 ∧ mw x1 < (1800 : Int) then mlm (mup σ413 86 6 (σ413 87 (mw x1).toNat)) (fun σ414 => some (0, σ414)) else none))))))
set_option maxRecDepth 100000 in
set_option maxHeartbeats 4000000 in
theorem w_X12_ahead_b135 {p : Program} {l : Launch} {e : Env} {s : State} {m : MethodId} {args : Array Value} {below : List Frame} {meth : Method} {c : Code} {D : va_G} {cy : Nat → ClassId} {ad : Nat → Nat} {bs : Nat} {F : Nat}  (X : mCx p m c cX12_ahead 6 s args RX12 meth D cy none)  {r : Int} {σ' : mMem}   {x1 x2 x3 : Int} {σ : mMem} {H : Heap} {locs : List Loc} {ls : Array Slot} (hw : mWd D cy ad bs true mN σ s.heap H locs) (hl : lv_has ls 6 [(0, .ref (ad 86)), (1, .int (mI x1)), (2, .int (mI x2)), (3, .int (mI x3))]) (hf : g_X12_ahead_b135 F x1 x2 x3 σ = some (r, σ')) : mGv p l e 2 s m args below meth c D cy ad bs σ' H locs (F0 m 135 ls []) := by
  obtain ⟨⟨hx, hb, -, -, -⟩, -⟩ := id X
  unfold g_X12_ahead_b135 at hf
  refine lv_aload_n hx hb dX12_ahead_135 rfl (lv_at hl 0 rfl) ?_
  refine lv_iconst (v := mI 0) hx hb dX12_ahead_136 rfl ?_
  refine r_puti X hw sh_86 fd_12_6 fp_12_6 rfl rfl lf_X12_29 dX12_ahead_137 (fun H locs hw => ?_)
  refine r_mem hf hw (fun σ410 hw hf => ?_)
  refine lv_aload_n hx hb dX12_ahead_140 rfl (lv_at hl 0 rfl) ?_
  refine lv_lconst (v := mL 0) hx hb dX12_ahead_141 (by decide) ?_
  refine r_putl X hw sh_86 fd_12_7 fp_12_7 rfl rfl lf_X12_32 dX12_ahead_142 (fun H locs hw => ?_)
  refine r_mem hf hw (fun σ411 hw hf => ?_)
  refine lv_aload_n hx hb dX12_ahead_145 rfl (lv_at hl 0 rfl) ?_
  refine lv_iconst (v := mI 3) hx hb dX12_ahead_146 rfl ?_
  refine r_puti X hw sh_86 fd_12_3 fp_12_3 rfl rfl lf_X12_20 dX12_ahead_147 (fun H locs hw => ?_)
  refine r_mem hf hw (fun σ412 hw hf => ?_)
  refine lv_aload_n hx hb dX12_ahead_150 rfl (lv_at hl 0 rfl) ?_
  refine lv_iload_n hx hb dX12_ahead_151 rfl (lv_at hl 1 rfl) ?_
  refine lv_iconst (v := mI 1) hx hb dX12_ahead_152 rfl ?_
  refine r_iadd X dX12_ahead_153 ?_
  refine r_puti X hw sh_86 fd_12_5 fp_12_5 rfl rfl lf_X12_26 dX12_ahead_154 (fun H locs hw => ?_)
  refine r_mem hf hw (fun σ413 hw hf => ?_)
  refine lv_iload_n hx hb dX12_ahead_157 rfl (lv_at hl 2 rfl) ?_
  refine r_if_ne (tgt := 176) X dX12_ahead_158 (by decide) hf (fun hc hf => ?_) (fun hc hf => ?_)
  · exact w_X12_ahead_b176 X hw (lv_sub hl [0, 1, 2, 3] rfl) hf
  · refine lv_iload_n hx hb dX12_ahead_161 rfl (lv_at hl 3 rfl) ?_
    refine r_if_ne (tgt := 176) X dX12_ahead_162 (by decide) hf (fun hc hf => ?_) (fun hc hf => ?_)
    · exact w_X12_ahead_b176 X hw (lv_sub hl [0, 1, 2, 3] rfl) hf
    · refine lv_aload_n hx hb dX12_ahead_165 rfl (lv_at hl 0 rfl) ?_
      refine lv_aload_n hx hb dX12_ahead_166 rfl (lv_at hl 0 rfl) ?_
      refine r_getr 87 X hw sh_86 fd_12_0 rfl rfl lf_X12_7 dX12_ahead_167 ?_
      refine lv_iload_n hx hb dX12_ahead_170 rfl (lv_at hl 1 rfl) ?_
      refine r_iald (1800 : Int) rfl X hw sh_87 dX12_ahead_171 hf (fun hf => ?_)
      refine r_puti X hw sh_86 fd_12_6 fp_12_6 rfl rfl lf_X12_29 dX12_ahead_172 (fun H locs hw => ?_)
      refine r_mem hf hw (fun σ414 hw hf => ?_)
      exact r_vret X hw dX12_ahead_175 hf
def g_X12_ahead_b130 (F : Nat)  (x1 x2 x3 : Int) (σ : mMem) : mRs := mlm (mup σ 86 12 x1) (fun σ719 => g_X12_ahead_b135 F x1 x2 x3 σ719)
set_option maxRecDepth 100000 in
set_option maxHeartbeats 4000000 in
theorem w_X12_ahead_b130 {p : Program} {l : Launch} {e : Env} {s : State} {m : MethodId} {args : Array Value} {below : List Frame} {meth : Method} {c : Code} {D : va_G} {cy : Nat → ClassId} {ad : Nat → Nat} {bs : Nat} {F : Nat}  (X : mCx p m c cX12_ahead 6 s args RX12 meth D cy none)  {r : Int} {σ' : mMem}   {x1 x2 x3 : Int} {σ : mMem} {H : Heap} {locs : List Loc} {ls : Array Slot} (hw : mWd D cy ad bs true mN σ s.heap H locs) (hl : lv_has ls 6 [(0, .ref (ad 86)), (1, .int (mI x1)), (2, .int (mI x2)), (3, .int (mI x3))]) (hf : g_X12_ahead_b130 F x1 x2 x3 σ = some (r, σ')) : mGv p l e 2 s m args below meth c D cy ad bs σ' H locs (F0 m 130 ls []) := by
  obtain ⟨⟨hx, hb, -, -, -⟩, -⟩ := id X
  unfold g_X12_ahead_b130 at hf
  refine lv_aload_n hx hb dX12_ahead_130 rfl (lv_at hl 0 rfl) ?_
  refine lv_iload_n hx hb dX12_ahead_131 rfl (lv_at hl 1 rfl) ?_
  refine r_puti X hw sh_86 fd_12_12 fp_12_12 rfl rfl lf_X12_48 dX12_ahead_132 (fun H locs hw => ?_)
  refine r_mem hf hw (fun σ719 hw hf => ?_)
  exact w_X12_ahead_b135 X hw (lv_sub hl [0, 1, 2, 3] rfl) hf
def g_X12_ahead_b98 (F : Nat)  (x1 x2 x3 : Int) (σ : mMem) : mRs := if mw x1 ≤ 0 then (g_X12_ahead_b135 F x1 x2 x3 σ) else (if 0 ≤ mw (x1 - 1) ∧ mw (x1 - 1) < (1800 : Int) then mob (g_X12_isLetter F (σ 87 (mw (x1 - 1)).toNat) σ) (fun r515 σ516 => if ¬ mw r515 = 0 then (g_X12_ahead_b130 F x1 x2 x3 σ516) else (if 0 ≤ mw (x1 - 1) ∧ mw (x1 - 1) < (1800 : Int) then mob (g_X12_isDigit F (σ516 87 (mw (x1 - 1)).toNat) σ516) (fun r517 σ518 => if mw r517 = 0 then (g_X12_ahead_b135 F x1 x2 x3 σ518) else (g_X12_ahead_b130 F x1 x2 x3 σ518)) else none)) else none)
set_option maxRecDepth 100000 in
set_option maxHeartbeats 4000000 in
theorem w_X12_ahead_b98 {p : Program} {l : Launch} {e : Env} {s : State} {m : MethodId} {args : Array Value} {below : List Frame} {meth : Method} {c : Code} {D : va_G} {cy : Nat → ClassId} {ad : Nat → Nat} {bs : Nat} {F : Nat}  (X : mCx p m c cX12_ahead 6 s args RX12 meth D cy none)  {r : Int} {σ' : mMem}   {x1 x2 x3 : Int} {σ : mMem} {H : Heap} {locs : List Loc} {ls : Array Slot} (hw : mWd D cy ad bs true mN σ s.heap H locs) (hl : lv_has ls 6 [(0, .ref (ad 86)), (1, .int (mI x1)), (2, .int (mI x2)), (3, .int (mI x3))]) (hf : g_X12_ahead_b98 F x1 x2 x3 σ = some (r, σ')) : mGv p l e 2 s m args below meth c D cy ad bs σ' H locs (F0 m 98 ls []) := by
  obtain ⟨⟨hx, hb, -, -, -⟩, -⟩ := id X
  unfold g_X12_ahead_b98 at hf
  refine lv_iload_n hx hb dX12_ahead_98 rfl (lv_at hl 1 rfl) ?_
  refine r_if_le (tgt := 135) X dX12_ahead_99 (by decide) hf (fun hc hf => ?_) (fun hc hf => ?_)
  · exact w_X12_ahead_b135 X hw (lv_sub hl [0, 1, 2, 3] rfl) hf
  · refine lv_aload_n hx hb dX12_ahead_102 rfl (lv_at hl 0 rfl) ?_
    refine r_getr 87 X hw sh_86 fd_12_0 rfl rfl lf_X12_7 dX12_ahead_103 ?_
    refine lv_iload_n hx hb dX12_ahead_106 rfl (lv_at hl 1 rfl) ?_
    refine lv_iconst (v := mI 1) hx hb dX12_ahead_107 rfl ?_
    refine r_isub X dX12_ahead_108 ?_
    refine r_iald (1800 : Int) rfl X hw sh_87 dX12_ahead_109 hf (fun hf => ?_)
    refine r_csi (rest := []) [.int (mI (σ 87 (mw (x1 - 1)).toNat))] X hw (fun ra σa h => c_X12_isLetter l D cy ad bs F (σ 87 (mw (x1 - 1)).toNat) σ ra σa  h) km_X12_isLetter ks_X12_isLetter lm_X12_246 dX12_ahead_110 hl.1 rfl rfl (Nat.le_of_ble_eq_true rfl) ⟨by decide, by decide⟩ ⟨Nat.zero_le _, Nat.zero_le _⟩ hf (fun r515 σ516 _ hf H locs hw => ?_)
    refine r_if_ne (tgt := 130) X dX12_ahead_113 (by decide) hf (fun hc hf => ?_) (fun hc hf => ?_)
    · exact w_X12_ahead_b130 X hw (lv_sub hl [0, 1, 2, 3] rfl) hf
    · refine lv_aload_n hx hb dX12_ahead_116 rfl (lv_at hl 0 rfl) ?_
      refine r_getr 87 X hw sh_86 fd_12_0 rfl rfl lf_X12_7 dX12_ahead_117 ?_
      refine lv_iload_n hx hb dX12_ahead_120 rfl (lv_at hl 1 rfl) ?_
      refine lv_iconst (v := mI 1) hx hb dX12_ahead_121 rfl ?_
      refine r_isub X dX12_ahead_122 ?_
      refine r_iald (1800 : Int) rfl X hw sh_87 dX12_ahead_123 hf (fun hf => ?_)
      refine r_csi (rest := []) [.int (mI (σ516 87 (mw (x1 - 1)).toNat))] X hw (fun ra σa h => c_X12_isDigit l D cy ad bs F (σ516 87 (mw (x1 - 1)).toNat) σ516 ra σa  h) km_X12_isDigit ks_X12_isDigit lm_X12_250 dX12_ahead_124 hl.1 rfl rfl (Nat.le_of_ble_eq_true rfl) ⟨by decide, by decide⟩ ⟨Nat.zero_le _, Nat.zero_le _⟩ hf (fun r517 σ518 _ hf H locs hw => ?_)
      refine r_if_eq (tgt := 135) X dX12_ahead_127 (by decide) hf (fun hc hf => ?_) (fun hc hf => ?_)
      · exact w_X12_ahead_b135 X hw (lv_sub hl [0, 1, 2, 3] rfl) hf
      · exact w_X12_ahead_b130 X hw (lv_sub hl [0, 1, 2, 3] rfl) hf
def g_X12_ahead_b41 (F : Nat)  (x1 : Int) (σ : mMem) : mRs := mlm (mup σ 86 4 x1) (fun σ202 => mlm (mup σ202 86 5 x1) (fun σ203 => mlm (mup σ203 86 3 0) (fun σ204 => mlm (mup σ204 86 12 (-1)) (fun σ205 => if mw x1 < mw (σ205 86 2) then (if 0 ≤ mw x1 ∧ mw x1 < (1800 : Int) then mob (g_X12_isLetter F (σ205 87 (mw x1).toNat) σ205) (fun r206 σ207 => if 0 ≤ mw x1 ∧ mw x1 < (1800 : Int) then mob (g_X12_isDigit F (σ207 87 (mw x1).toNat) σ207) (fun r208 σ209 => if ¬ mw r206 = 0 then (g_X12_ahead_b98 F x1 r206 r208 σ209) else (if mw r208 = 0 then (g_X12_ahead_b135 F x1 r206 r208 σ209) else (g_X12_ahead_b98 F x1 r206 r208 σ209))) else none) else none) else (some (0, σ205))))))
set_option maxRecDepth 100000 in
set_option maxHeartbeats 4000000 in
theorem w_X12_ahead_b41 {p : Program} {l : Launch} {e : Env} {s : State} {m : MethodId} {args : Array Value} {below : List Frame} {meth : Method} {c : Code} {D : va_G} {cy : Nat → ClassId} {ad : Nat → Nat} {bs : Nat} {F : Nat}  (X : mCx p m c cX12_ahead 6 s args RX12 meth D cy none)  {r : Int} {σ' : mMem}   {x1 : Int} {σ : mMem} {H : Heap} {locs : List Loc} {ls : Array Slot} (hw : mWd D cy ad bs true mN σ s.heap H locs) (hl : lv_has ls 6 [(0, .ref (ad 86)), (1, .int (mI x1))]) (hf : g_X12_ahead_b41 F x1 σ = some (r, σ')) : mGv p l e 2 s m args below meth c D cy ad bs σ' H locs (F0 m 41 ls []) := by
  obtain ⟨⟨hx, hb, -, -, -⟩, -⟩ := id X
  unfold g_X12_ahead_b41 at hf
  refine lv_aload_n hx hb dX12_ahead_41 rfl (lv_at hl 0 rfl) ?_
  refine lv_iload_n hx hb dX12_ahead_42 rfl (lv_at hl 1 rfl) ?_
  refine r_puti X hw sh_86 fd_12_4 fp_12_4 rfl rfl lf_X12_23 dX12_ahead_43 (fun H locs hw => ?_)
  refine r_mem hf hw (fun σ202 hw hf => ?_)
  refine lv_aload_n hx hb dX12_ahead_46 rfl (lv_at hl 0 rfl) ?_
  refine lv_iload_n hx hb dX12_ahead_47 rfl (lv_at hl 1 rfl) ?_
  refine r_puti X hw sh_86 fd_12_5 fp_12_5 rfl rfl lf_X12_26 dX12_ahead_48 (fun H locs hw => ?_)
  refine r_mem hf hw (fun σ203 hw hf => ?_)
  refine lv_aload_n hx hb dX12_ahead_51 rfl (lv_at hl 0 rfl) ?_
  refine lv_iconst (v := mI 0) hx hb dX12_ahead_52 rfl ?_
  refine r_puti X hw sh_86 fd_12_3 fp_12_3 rfl rfl lf_X12_20 dX12_ahead_53 (fun H locs hw => ?_)
  refine r_mem hf hw (fun σ204 hw hf => ?_)
  refine lv_aload_n hx hb dX12_ahead_56 rfl (lv_at hl 0 rfl) ?_
  refine lv_iconst (v := mI (-1)) hx hb dX12_ahead_57 rfl ?_
  refine r_puti X hw sh_86 fd_12_12 fp_12_12 rfl rfl lf_X12_48 dX12_ahead_58 (fun H locs hw => ?_)
  refine r_mem hf hw (fun σ205 hw hf => ?_)
  refine lv_iload_n hx hb dX12_ahead_61 rfl (lv_at hl 1 rfl) ?_
  refine lv_aload_n hx hb dX12_ahead_62 rfl (lv_at hl 0 rfl) ?_
  refine r_geti X hw sh_86 fd_12_2 rfl lf_X12_17 dX12_ahead_63 ?_
  refine r_icmp_lt (tgt := 70) X dX12_ahead_66 (by decide) hf (fun hc hf => ?_) (fun hc hf => ?_)
  · refine lv_aload_n hx hb dX12_ahead_70 rfl (lv_at hl 0 rfl) ?_
    refine r_getr 87 X hw sh_86 fd_12_0 rfl rfl lf_X12_7 dX12_ahead_71 ?_
    refine lv_iload_n hx hb dX12_ahead_74 rfl (lv_at hl 1 rfl) ?_
    refine r_iald (1800 : Int) rfl X hw sh_87 dX12_ahead_75 hf (fun hf => ?_)
    refine r_csi (rest := []) [.int (mI (σ205 87 (mw x1).toNat))] X hw (fun ra σa h => c_X12_isLetter l D cy ad bs F (σ205 87 (mw x1).toNat) σ205 ra σa  h) km_X12_isLetter ks_X12_isLetter lm_X12_246 dX12_ahead_76 hl.1 rfl rfl (Nat.le_of_ble_eq_true rfl) ⟨by decide, by decide⟩ ⟨Nat.zero_le _, Nat.zero_le _⟩ hf (fun r206 σ207 _ hf H locs hw => ?_)
    refine lv_istore_n (lv' := [(2, .int (mI r206)), (0, .ref (ad 86)), (1, .int (mI x1))]) hx hb dX12_ahead_79 rfl hl (by decide) rfl (fun ls hl => ?_)
    refine lv_aload_n hx hb dX12_ahead_80 rfl (lv_at hl 1 rfl) ?_
    refine r_getr 87 X hw sh_86 fd_12_0 rfl rfl lf_X12_7 dX12_ahead_81 ?_
    refine lv_iload_n hx hb dX12_ahead_84 rfl (lv_at hl 2 rfl) ?_
    refine r_iald (1800 : Int) rfl X hw sh_87 dX12_ahead_85 hf (fun hf => ?_)
    refine r_csi (rest := []) [.int (mI (σ207 87 (mw x1).toNat))] X hw (fun ra σa h => c_X12_isDigit l D cy ad bs F (σ207 87 (mw x1).toNat) σ207 ra σa  h) km_X12_isDigit ks_X12_isDigit lm_X12_250 dX12_ahead_86 hl.1 rfl rfl (Nat.le_of_ble_eq_true rfl) ⟨by decide, by decide⟩ ⟨Nat.zero_le _, Nat.zero_le _⟩ hf (fun r208 σ209 _ hf H locs hw => ?_)
    refine lv_istore_n (lv' := [(3, .int (mI r208)), (2, .int (mI r206)), (0, .ref (ad 86)), (1, .int (mI x1))]) hx hb dX12_ahead_89 rfl hl (by decide) rfl (fun ls hl => ?_)
    refine lv_iload_n hx hb dX12_ahead_90 rfl (lv_at hl 1 rfl) ?_
    refine r_if_ne (tgt := 98) X dX12_ahead_91 (by decide) hf (fun hc hf => ?_) (fun hc hf => ?_)
    · exact w_X12_ahead_b98 X hw (lv_sub hl [2, 3, 1, 0] rfl) hf
    · refine lv_iload_n hx hb dX12_ahead_94 rfl (lv_at hl 0 rfl) ?_
      refine r_if_eq (tgt := 135) X dX12_ahead_95 (by decide) hf (fun hc hf => ?_) (fun hc hf => ?_)
      · exact w_X12_ahead_b135 X hw (lv_sub hl [2, 3, 1, 0] rfl) hf
      · exact w_X12_ahead_b98 X hw (lv_sub hl [2, 3, 1, 0] rfl) hf
  · exact r_vret X hw dX12_ahead_69 hf
def g_X12_ahead_b35 (F : Nat) (k5 : Int → mMem → mRs) (x1 : Int) (σ : mMem) : mRs := k5 (x1 + 1) σ
set_option maxRecDepth 100000 in
set_option maxHeartbeats 4000000 in
theorem w_X12_ahead_b35 {p : Program} {l : Launch} {e : Env} {s : State} {m : MethodId} {args : Array Value} {below : List Frame} {meth : Method} {c : Code} {D : va_G} {cy : Nat → ClassId} {ad : Nat → Nat} {bs : Nat} {F : Nat}  (X : mCx p m c cX12_ahead 6 s args RX12 meth D cy none)  {r : Int} {σ' : mMem} {k5 : Int → mMem → mRs} (hk5 : ∀ (x1 : Int) (σ : mMem) (H : Heap) (locs : List Loc) (ls : Array Slot), mWd D cy ad bs true mN σ s.heap H locs → lv_has ls 6 [(0, .ref (ad 86)), (1, .int (mI x1))] → k5 x1 σ = some (r, σ') → mGv p l e 2 s m args below meth c D cy ad bs σ' H locs (F0 m 5 ls [])) {x1 : Int} {σ : mMem} {H : Heap} {locs : List Loc} {ls : Array Slot} (hw : mWd D cy ad bs true mN σ s.heap H locs) (hl : lv_has ls 6 [(0, .ref (ad 86)), (1, .int (mI x1))]) (hf : g_X12_ahead_b35 F k5 x1 σ = some (r, σ')) : mGv p l e 2 s m args below meth c D cy ad bs σ' H locs (F0 m 35 ls []) := by
  obtain ⟨⟨hx, hb, -, -, -⟩, -⟩ := id X
  unfold g_X12_ahead_b35 at hf
  refine lv_iinc (v := mI (x1 + 1)) (lv' := [(1, .int (mI (x1 + 1))), (0, .ref (ad 86))]) hx hb dX12_ahead_35 hl (k := 1) rfl (mI_add _ _) (by decide) rfl (fun ls hl => ?_)
  refine lv_goto (tgt := 5) hx hb dX12_ahead_38 (by decide) ?_
  exact hk5 (x1 + 1) σ _ _ _ hw (lv_sub hl [1, 0] rfl) hf
def g_X12_ahead_h5 (F : Nat)  : Nat → Int → mMem → mRs
  | 0, _, _ => none
  | n + 1, x1, σ => if mw (σ 86 2) ≤ mw x1 then (g_X12_ahead_b41 F x1 σ) else (if 0 ≤ mw x1 ∧ mw x1 < (1800 : Int) then if mw (σ 87 (mw x1).toNat) = mw 32 then (g_X12_ahead_b35 F (g_X12_ahead_h5 F n) x1 σ) else (if 0 ≤ mw x1 ∧ mw x1 < (1800 : Int) then if ¬ mw (σ 87 (mw x1).toNat) = mw 10 then (g_X12_ahead_b41 F x1 σ) else (g_X12_ahead_b35 F (g_X12_ahead_h5 F n) x1 σ) else none) else none)
set_option maxRecDepth 100000 in
set_option maxHeartbeats 4000000 in
theorem w_X12_ahead_h5 {p : Program} {l : Launch} {e : Env} {s : State} {m : MethodId} {args : Array Value} {below : List Frame} {meth : Method} {c : Code} {D : va_G} {cy : Nat → ClassId} {ad : Nat → Nat} {bs : Nat} {F : Nat}  (X : mCx p m c cX12_ahead 6 s args RX12 meth D cy none)  {r : Int} {σ' : mMem}   (n : Nat) : ∀ {x1 : Int} {σ : mMem} {H : Heap} {locs : List Loc} {ls : Array Slot} (_ : mWd D cy ad bs true mN σ s.heap H locs) (_ : lv_has ls 6 [(0, .ref (ad 86)), (1, .int (mI x1))]) (_ : g_X12_ahead_h5 F n x1 σ = some (r, σ')), mGv p l e 2 s m args below meth c D cy ad bs σ' H locs (F0 m 5 ls []) := by
  obtain ⟨⟨hx, hb, -, -, -⟩, -⟩ := id X
  induction n with
  | zero =>
    intro x1 σ H locs ls hw hl hf
    unfold g_X12_ahead_h5 at hf
    cases hf
  | succ n ih =>
    have hk5 : ∀ (x1 : Int) (σ : mMem) (H : Heap) (locs : List Loc) (ls : Array Slot), mWd D cy ad bs true mN σ s.heap H locs → lv_has ls 6 [(0, .ref (ad 86)), (1, .int (mI x1))] → g_X12_ahead_h5 F n x1 σ = some (r, σ') → mGv p l e 2 s m args below meth c D cy ad bs σ' H locs (F0 m 5 ls []) := fun x1 σ H locs ls hw hl hf => ih hw hl hf
    intro x1 σ H locs ls hw hl hf
    unfold g_X12_ahead_h5 at hf
    refine lv_iload_n hx hb dX12_ahead_5 rfl (lv_at hl 1 rfl) ?_
    refine lv_aload_n hx hb dX12_ahead_6 rfl (lv_at hl 0 rfl) ?_
    refine r_geti X hw sh_86 fd_12_2 rfl lf_X12_17 dX12_ahead_7 ?_
    refine r_icmp_ge (tgt := 41) X dX12_ahead_10 (by decide) hf (fun hc hf => ?_) (fun hc hf => ?_)
    · exact w_X12_ahead_b41 X hw (lv_sub hl [0, 1] rfl) hf
    · refine lv_aload_n hx hb dX12_ahead_13 rfl (lv_at hl 0 rfl) ?_
      refine r_getr 87 X hw sh_86 fd_12_0 rfl rfl lf_X12_7 dX12_ahead_14 ?_
      refine lv_iload_n hx hb dX12_ahead_17 rfl (lv_at hl 1 rfl) ?_
      refine r_iald (1800 : Int) rfl X hw sh_87 dX12_ahead_18 hf (fun hf => ?_)
      refine lv_bipush (v := mI 32) hx hb dX12_ahead_19 (by decide) ?_
      refine r_icmp_eq (tgt := 35) X dX12_ahead_21 (by decide) hf (fun hc hf => ?_) (fun hc hf => ?_)
      · exact w_X12_ahead_b35 X hk5 hw (lv_sub hl [0, 1] rfl) hf
      · refine lv_aload_n hx hb dX12_ahead_24 rfl (lv_at hl 0 rfl) ?_
        refine r_getr 87 X hw sh_86 fd_12_0 rfl rfl lf_X12_7 dX12_ahead_25 ?_
        refine lv_iload_n hx hb dX12_ahead_28 rfl (lv_at hl 1 rfl) ?_
        refine r_iald (1800 : Int) rfl X hw sh_87 dX12_ahead_29 hf (fun hf => ?_)
        refine lv_bipush (v := mI 10) hx hb dX12_ahead_30 (by decide) ?_
        refine r_icmp_ne (tgt := 41) X dX12_ahead_32 (by decide) hf (fun hc hf => ?_) (fun hc hf => ?_)
        · exact w_X12_ahead_b41 X hw (lv_sub hl [0, 1] rfl) hf
        · exact w_X12_ahead_b35 X hk5 hw (lv_sub hl [0, 1] rfl) hf
def g_X12_ahead (F : Nat) (σ : mMem) : mRs := mlet (σ 86 5) (fun y1 => g_X12_ahead_h5 F F y1 σ)
set_option maxRecDepth 100000 in
set_option maxHeartbeats 4000000 in
theorem c_X12_ahead (l : Launch) (D : va_G) (cy : Nat → ClassId) (ad : Nat → Nat) (bs : Nat) (F : Nat)   (σ : mMem) (r : Int) (σ' : mMem)  (hf : g_X12_ahead F  σ = some (r, σ')) : mCv l D cy ad bs yX12_ahead cX12_ahead 6 none 2 [.ref (ad 86)] σ σ' := by
  refine mCv.of (lv := [(0, .ref (ad 86))]) km_X12_ahead.2.2.2.2.2 (Nat.le_of_ble_eq_true rfl) rfl (fun p e s m args below meth c H locs ls X hw hl => ?_)
  obtain ⟨⟨hx, hb, -, -, -⟩, -⟩ := id X
  unfold g_X12_ahead at hf
  refine lv_aload_n hx hb dX12_ahead_0 rfl (lv_at hl 0 rfl) ?_
  refine r_geti X hw sh_86 fd_12_5 rfl lf_X12_26 dX12_ahead_1 ?_
  refine r_leti hf (fun y1 hf => ?_)
  refine lv_istore_n (lv' := [(1, .int (mI y1)), (0, .ref (ad 86))]) hx hb dX12_ahead_4 rfl hl (by decide) rfl (fun ls hl => ?_)
  exact w_X12_ahead_h5 X _ hw (lv_sub hl [1, 0] rfl) hf
def g_X12_isSign_b21 (F : Nat)  (t0 : Int) (σ : mMem) : mRs := if mw t0 = 0 ∨ mw t0 = 1 then some (t0, σ) else none
set_option maxRecDepth 100000 in
set_option maxHeartbeats 4000000 in
theorem w_X12_isSign_b21 {p : Program} {l : Launch} {e : Env} {s : State} {m : MethodId} {args : Array Value} {below : List Frame} {meth : Method} {c : Code} {D : va_G} {cy : Nat → ClassId} {ad : Nat → Nat} {bs : Nat} {F : Nat}  (X : mCx p m c cX12_isSign 2 s args RX12 meth D cy (some .boolean))  {r : Int} {σ' : mMem}   {t0 : Int} {σ : mMem} {H : Heap} {locs : List Loc} {ls : Array Slot} (hw : mWd D cy ad bs true mN σ s.heap H locs) (hl : lv_has ls 2 [(0, .ref (ad 86))]) (hf : g_X12_isSign_b21 F t0 σ = some (r, σ')) : mGi p l e 1 s m args below meth c D cy ad bs r σ' H locs (F0 m 21 ls [.int (mI t0)]) := by
  obtain ⟨⟨hx, hb, -, -, -⟩, -⟩ := id X
  unfold g_X12_isSign_b21 at hf
  exact r_zret X hw dX12_isSign_21 hf
def g_X12_isSign_b20 (F : Nat)  (σ : mMem) : mRs := g_X12_isSign_b21 F 0 σ
set_option maxRecDepth 100000 in
set_option maxHeartbeats 4000000 in
theorem w_X12_isSign_b20 {p : Program} {l : Launch} {e : Env} {s : State} {m : MethodId} {args : Array Value} {below : List Frame} {meth : Method} {c : Code} {D : va_G} {cy : Nat → ClassId} {ad : Nat → Nat} {bs : Nat} {F : Nat}  (X : mCx p m c cX12_isSign 2 s args RX12 meth D cy (some .boolean))  {r : Int} {σ' : mMem}    {σ : mMem} {H : Heap} {locs : List Loc} {ls : Array Slot} (hw : mWd D cy ad bs true mN σ s.heap H locs) (hl : lv_has ls 2 [(0, .ref (ad 86))]) (hf : g_X12_isSign_b20 F  σ = some (r, σ')) : mGi p l e 1 s m args below meth c D cy ad bs r σ' H locs (F0 m 20 ls []) := by
  obtain ⟨⟨hx, hb, -, -, -⟩, -⟩ := id X
  unfold g_X12_isSign_b20 at hf
  refine lv_iconst (v := mI 0) hx hb dX12_isSign_20 rfl ?_
  exact w_X12_isSign_b21 X hw (lv_sub hl [0] rfl) hf
def g_X12_isSign (F : Nat) (x1 : Int) (σ : mMem) : mRs := if ¬ mw (σ 86 3) = mw 3 then (g_X12_isSign_b20 F σ) else (if ¬ mw (σ 86 6) = mw x1 then (g_X12_isSign_b20 F σ) else (g_X12_isSign_b21 F 1 σ))
set_option maxRecDepth 100000 in
set_option maxHeartbeats 4000000 in
theorem c_X12_isSign (l : Launch) (D : va_G) (cy : Nat → ClassId) (ad : Nat → Nat) (bs : Nat) (F : Nat)  (x1 : Int) (σ : mMem) (r : Int) (σ' : mMem)  (hf : g_X12_isSign F x1 σ = some (r, σ')) : mCi l D cy ad bs yX12_isSign cX12_isSign 2 (some .boolean) 1 [.ref (ad 86), .int (mI x1)] σ r σ' := by
  refine mCi.of (lv := [(0, .ref (ad 86)), (1, .int (mI x1))]) km_X12_isSign.2.2.2.2.2 (Nat.le_of_ble_eq_true rfl) rfl (fun p e s m args below meth c H locs ls X hw hl => ?_)
  obtain ⟨⟨hx, hb, -, -, -⟩, -⟩ := id X
  unfold g_X12_isSign at hf
  refine lv_aload_n hx hb dX12_isSign_0 rfl (lv_at hl 0 rfl) ?_
  refine r_geti X hw sh_86 fd_12_3 rfl lf_X12_20 dX12_isSign_1 ?_
  refine lv_iconst (v := mI 3) hx hb dX12_isSign_4 rfl ?_
  refine r_icmp_ne (tgt := 20) X dX12_isSign_5 (by decide) hf (fun hc hf => ?_) (fun hc hf => ?_)
  · exact w_X12_isSign_b20 X hw (lv_sub hl [0] rfl) hf
  · refine lv_aload_n hx hb dX12_isSign_8 rfl (lv_at hl 0 rfl) ?_
    refine r_geti X hw sh_86 fd_12_6 rfl lf_X12_29 dX12_isSign_9 ?_
    refine lv_iload_n hx hb dX12_isSign_12 rfl (lv_at hl 1 rfl) ?_
    refine r_icmp_ne (tgt := 20) X dX12_isSign_13 (by decide) hf (fun hc hf => ?_) (fun hc hf => ?_)
    · exact w_X12_isSign_b20 X hw (lv_sub hl [0] rfl) hf
    · refine lv_iconst (v := mI 1) hx hb dX12_isSign_16 rfl ?_
      refine lv_goto (tgt := 21) hx hb dX12_isSign_17 (by decide) ?_
      exact w_X12_isSign_b21 X hw (lv_sub hl [0] rfl) hf
def g_X12_isWord_b22 (F : Nat)  (t0 : Int) (σ : mMem) : mRs := if mw t0 = 0 ∨ mw t0 = 1 then some (t0, σ) else none
set_option maxRecDepth 100000 in
set_option maxHeartbeats 4000000 in
theorem w_X12_isWord_b22 {p : Program} {l : Launch} {e : Env} {s : State} {m : MethodId} {args : Array Value} {below : List Frame} {meth : Method} {c : Code} {D : va_G} {cy : Nat → ClassId} {ad : Nat → Nat} {bs : Nat} {F : Nat}  (X : mCx p m c cX12_isWord 3 s args RX12 meth D cy (some .boolean))  {r : Int} {σ' : mMem}   {t0 : Int} {σ : mMem} {H : Heap} {locs : List Loc} {ls : Array Slot} (hw : mWd D cy ad bs true mN σ s.heap H locs) (hl : lv_has ls 3 [(0, .ref (ad 86))]) (hf : g_X12_isWord_b22 F t0 σ = some (r, σ')) : mGi p l e 1 s m args below meth c D cy ad bs r σ' H locs (F0 m 22 ls [.int (mI t0)]) := by
  obtain ⟨⟨hx, hb, -, -, -⟩, -⟩ := id X
  unfold g_X12_isWord_b22 at hf
  exact r_zret X hw dX12_isWord_22 hf
def g_X12_isWord_b21 (F : Nat)  (σ : mMem) : mRs := g_X12_isWord_b22 F 0 σ
set_option maxRecDepth 100000 in
set_option maxHeartbeats 4000000 in
theorem w_X12_isWord_b21 {p : Program} {l : Launch} {e : Env} {s : State} {m : MethodId} {args : Array Value} {below : List Frame} {meth : Method} {c : Code} {D : va_G} {cy : Nat → ClassId} {ad : Nat → Nat} {bs : Nat} {F : Nat}  (X : mCx p m c cX12_isWord 3 s args RX12 meth D cy (some .boolean))  {r : Int} {σ' : mMem}    {σ : mMem} {H : Heap} {locs : List Loc} {ls : Array Slot} (hw : mWd D cy ad bs true mN σ s.heap H locs) (hl : lv_has ls 3 [(0, .ref (ad 86))]) (hf : g_X12_isWord_b21 F  σ = some (r, σ')) : mGi p l e 1 s m args below meth c D cy ad bs r σ' H locs (F0 m 21 ls []) := by
  obtain ⟨⟨hx, hb, -, -, -⟩, -⟩ := id X
  unfold g_X12_isWord_b21 at hf
  refine lv_iconst (v := mI 0) hx hb dX12_isWord_21 rfl ?_
  exact w_X12_isWord_b22 X hw (lv_sub hl [0] rfl) hf
def g_X12_isWord (F : Nat) (x1 : Int) (σ : mMem) : mRs := if ¬ mw (σ 86 3) = mw 1 then (g_X12_isWord_b21 F σ) else (if ¬ mwl (σ 86 7) = mwl x1 then (g_X12_isWord_b21 F σ) else (g_X12_isWord_b22 F 1 σ))
set_option maxRecDepth 100000 in
set_option maxHeartbeats 4000000 in
theorem c_X12_isWord (l : Launch) (D : va_G) (cy : Nat → ClassId) (ad : Nat → Nat) (bs : Nat) (F : Nat)  (x1 : Int) (σ : mMem) (r : Int) (σ' : mMem)  (hf : g_X12_isWord F x1 σ = some (r, σ')) : mCi l D cy ad bs yX12_isWord cX12_isWord 3 (some .boolean) 1 [.ref (ad 86), .long (mL x1)] σ r σ' := by
  refine mCi.of (lv := [(0, .ref (ad 86)), (1, .long (mL x1))]) km_X12_isWord.2.2.2.2.2 (Nat.le_of_ble_eq_true rfl) rfl (fun p e s m args below meth c H locs ls X hw hl => ?_)
  obtain ⟨⟨hx, hb, -, -, -⟩, -⟩ := id X
  unfold g_X12_isWord at hf
  refine lv_aload_n hx hb dX12_isWord_0 rfl (lv_at hl 0 rfl) ?_
  refine r_geti X hw sh_86 fd_12_3 rfl lf_X12_20 dX12_isWord_1 ?_
  refine lv_iconst (v := mI 1) hx hb dX12_isWord_4 rfl ?_
  refine r_icmp_ne (tgt := 21) X dX12_isWord_5 (by decide) hf (fun hc hf => ?_) (fun hc hf => ?_)
  · exact w_X12_isWord_b21 X hw (lv_sub hl [0] rfl) hf
  · refine lv_aload_n hx hb dX12_isWord_8 rfl (lv_at hl 0 rfl) ?_
    refine r_getl X hw sh_86 fd_12_7 rfl lf_X12_32 dX12_isWord_9 ?_
    refine lv_lload_n hx hb dX12_isWord_12 rfl (lv_at hl 1 rfl) ?_
    refine r_lcmp_ne (tgt := 21) X dX12_isWord_13 dX12_isWord_14 (by decide) hf (fun hc hf => ?_) (fun hc hf => ?_)
    · exact w_X12_isWord_b21 X hw (lv_sub hl [0] rfl) hf
    · refine lv_iconst (v := mI 1) hx hb dX12_isWord_17 rfl ?_
      refine lv_goto (tgt := 22) hx hb dX12_isWord_18 (by decide) ?_
      exact w_X12_isWord_b22 X hw (lv_sub hl [0] rfl) hf
def g_X12_must_b32 (F : Nat)  (σ : mMem) : mRs := some (0, σ)
set_option maxRecDepth 100000 in
set_option maxHeartbeats 4000000 in
theorem w_X12_must_b32 {p : Program} {l : Launch} {e : Env} {s : State} {m : MethodId} {args : Array Value} {below : List Frame} {meth : Method} {c : Code} {D : va_G} {cy : Nat → ClassId} {ad : Nat → Nat} {bs : Nat} {F : Nat}  (X : mCx p m c cX12_must 2 s args RX12 meth D cy none)  {r : Int} {σ' : mMem}    {σ : mMem} {H : Heap} {locs : List Loc} {ls : Array Slot} (hw : mWd D cy ad bs true mN σ s.heap H locs) (hl : lv_has ls 2 [(0, .ref (ad 86))]) (hf : g_X12_must_b32 F  σ = some (r, σ')) : mGv p l e 3 s m args below meth c D cy ad bs σ' H locs (F0 m 32 ls []) := by
  obtain ⟨⟨hx, hb, -, -, -⟩, -⟩ := id X
  unfold g_X12_must_b32 at hf
  exact r_vret X hw dX12_must_32 hf
def g_X12_must_b21 (F : Nat)  (σ : mMem) : mRs := if ¬ mw (σ 86 8) = 0 then (g_X12_must_b32 F σ) else (mob (g_X12_ahead F σ) (fun r107 σ108 => g_X12_must_b32 F σ108))
set_option maxRecDepth 100000 in
set_option maxHeartbeats 4000000 in
theorem w_X12_must_b21 {p : Program} {l : Launch} {e : Env} {s : State} {m : MethodId} {args : Array Value} {below : List Frame} {meth : Method} {c : Code} {D : va_G} {cy : Nat → ClassId} {ad : Nat → Nat} {bs : Nat} {F : Nat}  (X : mCx p m c cX12_must 2 s args RX12 meth D cy none)  {r : Int} {σ' : mMem}    {σ : mMem} {H : Heap} {locs : List Loc} {ls : Array Slot} (hw : mWd D cy ad bs true mN σ s.heap H locs) (hl : lv_has ls 2 [(0, .ref (ad 86))]) (hf : g_X12_must_b21 F  σ = some (r, σ')) : mGv p l e 3 s m args below meth c D cy ad bs σ' H locs (F0 m 21 ls []) := by
  obtain ⟨⟨hx, hb, -, -, -⟩, -⟩ := id X
  unfold g_X12_must_b21 at hf
  refine lv_aload_n hx hb dX12_must_21 rfl (lv_at hl 0 rfl) ?_
  refine r_geti X hw sh_86 fd_12_8 rfl lf_X12_36 dX12_must_22 ?_
  refine r_if_ne (tgt := 32) X dX12_must_25 (by decide) hf (fun hc hf => ?_) (fun hc hf => ?_)
  · exact w_X12_must_b32 X hw (lv_sub hl [0] rfl) hf
  · refine lv_aload_n hx hb dX12_must_28 rfl (lv_at hl 0 rfl) ?_
    refine r_cvv (rest := []) [] X hw (fun ra σa h => c_X12_ahead l D cy ad bs F σ ra σa  h) sh_86 rfl (by decide) rfl km_X12_ahead kv_X12_ahead lm_X12_259 dX12_must_29 hl.1 rfl rfl (Nat.le_of_ble_eq_true rfl) ⟨by decide, by decide⟩ ⟨Nat.zero_le _, Nat.zero_le _⟩ hf (fun r107 σ108 _ hf H locs hw => ?_)
    exact w_X12_must_b32 X hw (lv_sub hl [0] rfl) hf
def g_X12_must (F : Nat) (x1 : Int) (σ : mMem) : mRs := mob (g_X12_lex F σ) (fun r1 σ2 => mob (g_X12_isSign F x1 σ2) (fun r3 σ4 => if ¬ mw r3 = 0 then (g_X12_must_b21 F σ4) else (mob (g_X12_blame F 1 (σ4 86 4) σ4) (fun r5 σ6 => g_X12_must_b21 F σ6))))
set_option maxRecDepth 100000 in
set_option maxHeartbeats 4000000 in
theorem c_X12_must (l : Launch) (D : va_G) (cy : Nat → ClassId) (ad : Nat → Nat) (bs : Nat) (F : Nat)  (x1 : Int) (σ : mMem) (r : Int) (σ' : mMem)  (hf : g_X12_must F x1 σ = some (r, σ')) : mCv l D cy ad bs yX12_must cX12_must 2 none 3 [.ref (ad 86), .int (mI x1)] σ σ' := by
  refine mCv.of (lv := [(0, .ref (ad 86)), (1, .int (mI x1))]) km_X12_must.2.2.2.2.2 (Nat.le_of_ble_eq_true rfl) rfl (fun p e s m args below meth c H locs ls X hw hl => ?_)
  obtain ⟨⟨hx, hb, -, -, -⟩, -⟩ := id X
  unfold g_X12_must at hf
  refine lv_aload_n hx hb dX12_must_0 rfl (lv_at hl 0 rfl) ?_
  refine r_cvv (rest := []) [] X hw (fun ra σa h => c_X12_lex l D cy ad bs F σ ra σa  h) sh_86 rfl (by decide) rfl km_X12_lex kv_X12_lex lm_X12_253 dX12_must_1 hl.1 rfl rfl (Nat.le_of_ble_eq_true rfl) ⟨by decide, by decide⟩ ⟨Nat.zero_le _, Nat.zero_le _⟩ hf (fun r1 σ2 _ hf H locs hw => ?_)
  refine lv_aload_n hx hb dX12_must_4 rfl (lv_at hl 0 rfl) ?_
  refine lv_iload_n hx hb dX12_must_5 rfl (lv_at hl 1 rfl) ?_
  refine r_cvi (rest := []) [.int (mI x1)] X hw (fun ra σa h => c_X12_isSign l D cy ad bs F x1 σ2 ra σa  h) sh_86 rfl (by decide) rfl km_X12_isSign kv_X12_isSign lm_X12_256 dX12_must_6 hl.1 rfl rfl (Nat.le_of_ble_eq_true rfl) ⟨by decide, by decide⟩ ⟨Nat.zero_le _, Nat.zero_le _⟩ hf (fun r3 σ4 _ hf H locs hw => ?_)
  refine r_if_ne (tgt := 21) X dX12_must_9 (by decide) hf (fun hc hf => ?_) (fun hc hf => ?_)
  · exact w_X12_must_b21 X hw (lv_sub hl [0] rfl) hf
  · refine lv_aload_n hx hb dX12_must_12 rfl (lv_at hl 0 rfl) ?_
    refine lv_iconst (v := mI 1) hx hb dX12_must_13 rfl ?_
    refine lv_aload_n hx hb dX12_must_14 rfl (lv_at hl 0 rfl) ?_
    refine r_geti X hw sh_86 fd_12_4 rfl lf_X12_23 dX12_must_15 ?_
    refine r_cvv (rest := []) [.int (mI 1), .int (mI (σ4 86 4))] X hw (fun ra σa h => c_X12_blame l D cy ad bs F 1 (σ4 86 4) σ4 ra σa  h) sh_86 rfl (by decide) rfl km_X12_blame kv_X12_blame lm_X12_242 dX12_must_18 hl.1 rfl rfl (Nat.le_of_ble_eq_true rfl) ⟨by decide, by decide⟩ ⟨Nat.zero_le _, Nat.zero_le _⟩ hf (fun r5 σ6 _ hf H locs hw => ?_)
    exact w_X12_must_b21 X hw (lv_sub hl [0] rfl) hf
def g_X12_isOwn_b40 (F : Nat)  (σ : mMem) : mRs := if mw 1 = 0 ∨ mw 1 = 1 then some (1, σ) else none
set_option maxRecDepth 100000 in
set_option maxHeartbeats 4000000 in
theorem w_X12_isOwn_b40 {p : Program} {l : Launch} {e : Env} {s : State} {m : MethodId} {args : Array Value} {below : List Frame} {meth : Method} {c : Code} {D : va_G} {cy : Nat → ClassId} {ad : Nat → Nat} {bs : Nat} {F : Nat}  (X : mCx p m c cX12_isOwn 3 s args RX12 meth D cy (some .boolean))  {r : Int} {σ' : mMem}    {σ : mMem} {H : Heap} {locs : List Loc} {ls : Array Slot} (hw : mWd D cy ad bs true mN σ s.heap H locs) (hl : lv_has ls 3 [(0, .ref (ad 86))]) (hf : g_X12_isOwn_b40 F  σ = some (r, σ')) : mGi p l e 1 s m args below meth c D cy ad bs r σ' H locs (F0 m 40 ls []) := by
  obtain ⟨⟨hx, hb, -, -, -⟩, -⟩ := id X
  unfold g_X12_isOwn_b40 at hf
  refine lv_iconst (v := mI 1) hx hb dX12_isOwn_40 rfl ?_
  exact r_zret X hw dX12_isOwn_41 hf
def g_X12_isOwn_b82 (F : Nat)  (σ : mMem) : mRs := if mw 1 = 0 ∨ mw 1 = 1 then some (1, σ) else none
set_option maxRecDepth 100000 in
set_option maxHeartbeats 4000000 in
theorem w_X12_isOwn_b82 {p : Program} {l : Launch} {e : Env} {s : State} {m : MethodId} {args : Array Value} {below : List Frame} {meth : Method} {c : Code} {D : va_G} {cy : Nat → ClassId} {ad : Nat → Nat} {bs : Nat} {F : Nat}  (X : mCx p m c cX12_isOwn 3 s args RX12 meth D cy (some .boolean))  {r : Int} {σ' : mMem}    {σ : mMem} {H : Heap} {locs : List Loc} {ls : Array Slot} (hw : mWd D cy ad bs true mN σ s.heap H locs) (hl : lv_has ls 3 [(0, .ref (ad 86))]) (hf : g_X12_isOwn_b82 F  σ = some (r, σ')) : mGi p l e 1 s m args below meth c D cy ad bs r σ' H locs (F0 m 82 ls []) := by
  obtain ⟨⟨hx, hb, -, -, -⟩, -⟩ := id X
  unfold g_X12_isOwn_b82 at hf
  refine lv_iconst (v := mI 1) hx hb dX12_isOwn_82 rfl ?_
  exact r_zret X hw dX12_isOwn_83 hf
def g_X12_isOwn_b124 (F : Nat)  (σ : mMem) : mRs := if mw 1 = 0 ∨ mw 1 = 1 then some (1, σ) else none
set_option maxRecDepth 100000 in
set_option maxHeartbeats 4000000 in
theorem w_X12_isOwn_b124 {p : Program} {l : Launch} {e : Env} {s : State} {m : MethodId} {args : Array Value} {below : List Frame} {meth : Method} {c : Code} {D : va_G} {cy : Nat → ClassId} {ad : Nat → Nat} {bs : Nat} {F : Nat}  (X : mCx p m c cX12_isOwn 3 s args RX12 meth D cy (some .boolean))  {r : Int} {σ' : mMem}    {σ : mMem} {H : Heap} {locs : List Loc} {ls : Array Slot} (hw : mWd D cy ad bs true mN σ s.heap H locs) (hl : lv_has ls 3 [(0, .ref (ad 86))]) (hf : g_X12_isOwn_b124 F  σ = some (r, σ')) : mGi p l e 1 s m args below meth c D cy ad bs r σ' H locs (F0 m 124 ls []) := by
  obtain ⟨⟨hx, hb, -, -, -⟩, -⟩ := id X
  unfold g_X12_isOwn_b124 at hf
  refine lv_iconst (v := mI 1) hx hb dX12_isOwn_124 rfl ?_
  exact r_zret X hw dX12_isOwn_125 hf
def g_X12_isOwn_b166 (F : Nat)  (σ : mMem) : mRs := if mw 1 = 0 ∨ mw 1 = 1 then some (1, σ) else none
set_option maxRecDepth 100000 in
set_option maxHeartbeats 4000000 in
theorem w_X12_isOwn_b166 {p : Program} {l : Launch} {e : Env} {s : State} {m : MethodId} {args : Array Value} {below : List Frame} {meth : Method} {c : Code} {D : va_G} {cy : Nat → ClassId} {ad : Nat → Nat} {bs : Nat} {F : Nat}  (X : mCx p m c cX12_isOwn 3 s args RX12 meth D cy (some .boolean))  {r : Int} {σ' : mMem}    {σ : mMem} {H : Heap} {locs : List Loc} {ls : Array Slot} (hw : mWd D cy ad bs true mN σ s.heap H locs) (hl : lv_has ls 3 [(0, .ref (ad 86))]) (hf : g_X12_isOwn_b166 F  σ = some (r, σ')) : mGi p l e 1 s m args below meth c D cy ad bs r σ' H locs (F0 m 166 ls []) := by
  obtain ⟨⟨hx, hb, -, -, -⟩, -⟩ := id X
  unfold g_X12_isOwn_b166 at hf
  refine lv_iconst (v := mI 1) hx hb dX12_isOwn_166 rfl ?_
  exact r_zret X hw dX12_isOwn_167 hf
def g_X12_isOwn_b208 (F : Nat)  (σ : mMem) : mRs := if mw 1 = 0 ∨ mw 1 = 1 then some (1, σ) else none
set_option maxRecDepth 100000 in
set_option maxHeartbeats 4000000 in
theorem w_X12_isOwn_b208 {p : Program} {l : Launch} {e : Env} {s : State} {m : MethodId} {args : Array Value} {below : List Frame} {meth : Method} {c : Code} {D : va_G} {cy : Nat → ClassId} {ad : Nat → Nat} {bs : Nat} {F : Nat}  (X : mCx p m c cX12_isOwn 3 s args RX12 meth D cy (some .boolean))  {r : Int} {σ' : mMem}    {σ : mMem} {H : Heap} {locs : List Loc} {ls : Array Slot} (hw : mWd D cy ad bs true mN σ s.heap H locs) (hl : lv_has ls 3 [(0, .ref (ad 86))]) (hf : g_X12_isOwn_b208 F  σ = some (r, σ')) : mGi p l e 1 s m args below meth c D cy ad bs r σ' H locs (F0 m 208 ls []) := by
  obtain ⟨⟨hx, hb, -, -, -⟩, -⟩ := id X
  unfold g_X12_isOwn_b208 at hf
  refine lv_iconst (v := mI 1) hx hb dX12_isOwn_208 rfl ?_
  exact r_zret X hw dX12_isOwn_209 hf
def g_X12_isOwn_b234 (F : Nat)  (σ : mMem) : mRs := if mw 1 = 0 ∨ mw 1 = 1 then some (1, σ) else none
set_option maxRecDepth 100000 in
set_option maxHeartbeats 4000000 in
theorem w_X12_isOwn_b234 {p : Program} {l : Launch} {e : Env} {s : State} {m : MethodId} {args : Array Value} {below : List Frame} {meth : Method} {c : Code} {D : va_G} {cy : Nat → ClassId} {ad : Nat → Nat} {bs : Nat} {F : Nat}  (X : mCx p m c cX12_isOwn 3 s args RX12 meth D cy (some .boolean))  {r : Int} {σ' : mMem}    {σ : mMem} {H : Heap} {locs : List Loc} {ls : Array Slot} (hw : mWd D cy ad bs true mN σ s.heap H locs) (hl : lv_has ls 3 [(0, .ref (ad 86))]) (hf : g_X12_isOwn_b234 F  σ = some (r, σ')) : mGi p l e 1 s m args below meth c D cy ad bs r σ' H locs (F0 m 234 ls []) := by
  obtain ⟨⟨hx, hb, -, -, -⟩, -⟩ := id X
  unfold g_X12_isOwn_b234 at hf
  refine lv_iconst (v := mI 1) hx hb dX12_isOwn_234 rfl ?_
  exact r_zret X hw dX12_isOwn_235 hf
def g_X12_isOwn (F : Nat) (x1 : Int) (σ : mMem) : mRs := if mwl x1 = mwl 439905906546 then (g_X12_isOwn_b40 F σ) else (if mwl x1 = mwl 25209 then (g_X12_isOwn_b40 F σ) else (if mwl x1 = mwl 1735550329 then (g_X12_isOwn_b40 F σ) else (if mwl x1 = mwl 6451064 then (g_X12_isOwn_b40 F σ) else (if ¬ mwl x1 = mwl 24948 then (if mwl x1 = mwl 7823737 then (g_X12_isOwn_b82 F σ) else (if mwl x1 = mwl 1702454643 then (g_X12_isOwn_b82 F σ) else (if mwl x1 = mwl 418497262196 then (g_X12_isOwn_b82 F σ) else (if mwl x1 = mwl 418363302244 then (g_X12_isOwn_b82 F σ) else (if ¬ mwl x1 = mwl 1651073395 then (if mwl x1 = mwl 126943754547827 then (g_X12_isOwn_b124 F σ) else (if mwl x1 = mwl 1735353715 then (g_X12_isOwn_b124 F σ) else (if mwl x1 = mwl 482906432882 then (g_X12_isOwn_b124 F σ) else (if mwl x1 = mwl 1818324336 then (g_X12_isOwn_b124 F σ) else (if ¬ mwl x1 = mwl 6513012 then (if mwl x1 = mwl 1818584692 then (g_X12_isOwn_b166 F σ) else (if mwl x1 = mwl 491394656372 then (g_X12_isOwn_b166 F σ) else (if mwl x1 = mwl 7170404 then (g_X12_isOwn_b166 F σ) else (if mwl x1 = mwl 1819243380 then (g_X12_isOwn_b166 F σ) else (if ¬ mwl x1 = mwl 1937007984 then (if mwl x1 = mwl 128047779833188 then (g_X12_isOwn_b208 F σ) else (if mwl x1 = mwl 26982 then (g_X12_isOwn_b208 F σ) else (if mwl x1 = mwl 28530 then (g_X12_isOwn_b208 F σ) else (if mwl x1 = mwl 6385252 then (g_X12_isOwn_b208 F σ) else (if ¬ mwl x1 = mwl 7237492 then (if mwl x1 = mwl 6384748 then (g_X12_isOwn_b234 F σ) else (if mwl x1 = mwl 7170414 then (g_X12_isOwn_b234 F σ) else (if ¬ mwl x1 = mwl 7168376 then (if mw 0 = 0 ∨ mw 0 = 1 then some (0, σ) else none) else (g_X12_isOwn_b234 F σ)))) else (g_X12_isOwn_b208 F σ)))))) else (g_X12_isOwn_b166 F σ)))))) else (g_X12_isOwn_b124 F σ)))))) else (g_X12_isOwn_b82 F σ)))))) else (g_X12_isOwn_b40 F σ)))))
set_option maxRecDepth 100000 in
set_option maxHeartbeats 4000000 in
theorem c_X12_isOwn (l : Launch) (D : va_G) (cy : Nat → ClassId) (ad : Nat → Nat) (bs : Nat) (F : Nat)  (x1 : Int) (σ : mMem) (r : Int) (σ' : mMem)  (hf : g_X12_isOwn F x1 σ = some (r, σ')) : mCi l D cy ad bs yX12_isOwn cX12_isOwn 3 (some .boolean) 1 [.ref (ad 86), .long (mL x1)] σ r σ' := by
  refine mCi.of (lv := [(0, .ref (ad 86)), (1, .long (mL x1))]) km_X12_isOwn.2.2.2.2.2 (Nat.le_of_ble_eq_true rfl) rfl (fun p e s m args below meth c H locs ls X hw hl => ?_)
  obtain ⟨⟨hx, hb, -, -, -⟩, -⟩ := id X
  unfold g_X12_isOwn at hf
  refine lv_lload_n hx hb dX12_isOwn_0 rfl (lv_at hl 1 rfl) ?_
  refine r_ldc2 (z := 439905906546) (by decide) X lc_X12_262 dX12_isOwn_1 ?_
  refine r_lcmp_eq (tgt := 40) X dX12_isOwn_4 dX12_isOwn_5 (by decide) hf (fun hc hf => ?_) (fun hc hf => ?_)
  · exact w_X12_isOwn_b40 X hw (lv_sub hl [0] rfl) hf
  · refine lv_lload_n hx hb dX12_isOwn_8 rfl (lv_at hl 1 rfl) ?_
    refine r_ldc2 (z := 25209) (by decide) X lc_X12_264 dX12_isOwn_9 ?_
    refine r_lcmp_eq (tgt := 40) X dX12_isOwn_12 dX12_isOwn_13 (by decide) hf (fun hc hf => ?_) (fun hc hf => ?_)
    · exact w_X12_isOwn_b40 X hw (lv_sub hl [0] rfl) hf
    · refine lv_lload_n hx hb dX12_isOwn_16 rfl (lv_at hl 1 rfl) ?_
      refine r_ldc2 (z := 1735550329) (by decide) X lc_X12_266 dX12_isOwn_17 ?_
      refine r_lcmp_eq (tgt := 40) X dX12_isOwn_20 dX12_isOwn_21 (by decide) hf (fun hc hf => ?_) (fun hc hf => ?_)
      · exact w_X12_isOwn_b40 X hw (lv_sub hl [0] rfl) hf
      · refine lv_lload_n hx hb dX12_isOwn_24 rfl (lv_at hl 1 rfl) ?_
        refine r_ldc2 (z := 6451064) (by decide) X lc_X12_268 dX12_isOwn_25 ?_
        refine r_lcmp_eq (tgt := 40) X dX12_isOwn_28 dX12_isOwn_29 (by decide) hf (fun hc hf => ?_) (fun hc hf => ?_)
        · exact w_X12_isOwn_b40 X hw (lv_sub hl [0] rfl) hf
        · refine lv_lload_n hx hb dX12_isOwn_32 rfl (lv_at hl 1 rfl) ?_
          refine r_ldc2 (z := 24948) (by decide) X lc_X12_270 dX12_isOwn_33 ?_
          refine r_lcmp_ne (tgt := 42) X dX12_isOwn_36 dX12_isOwn_37 (by decide) hf (fun hc hf => ?_) (fun hc hf => ?_)
          · refine lv_lload_n hx hb dX12_isOwn_42 rfl (lv_at hl 1 rfl) ?_
            refine r_ldc2 (z := 7823737) (by decide) X lc_X12_272 dX12_isOwn_43 ?_
            refine r_lcmp_eq (tgt := 82) X dX12_isOwn_46 dX12_isOwn_47 (by decide) hf (fun hc hf => ?_) (fun hc hf => ?_)
            · exact w_X12_isOwn_b82 X hw (lv_sub hl [0] rfl) hf
            · refine lv_lload_n hx hb dX12_isOwn_50 rfl (lv_at hl 1 rfl) ?_
              refine r_ldc2 (z := 1702454643) (by decide) X lc_X12_274 dX12_isOwn_51 ?_
              refine r_lcmp_eq (tgt := 82) X dX12_isOwn_54 dX12_isOwn_55 (by decide) hf (fun hc hf => ?_) (fun hc hf => ?_)
              · exact w_X12_isOwn_b82 X hw (lv_sub hl [0] rfl) hf
              · refine lv_lload_n hx hb dX12_isOwn_58 rfl (lv_at hl 1 rfl) ?_
                refine r_ldc2 (z := 418497262196) (by decide) X lc_X12_276 dX12_isOwn_59 ?_
                refine r_lcmp_eq (tgt := 82) X dX12_isOwn_62 dX12_isOwn_63 (by decide) hf (fun hc hf => ?_) (fun hc hf => ?_)
                · exact w_X12_isOwn_b82 X hw (lv_sub hl [0] rfl) hf
                · refine lv_lload_n hx hb dX12_isOwn_66 rfl (lv_at hl 1 rfl) ?_
                  refine r_ldc2 (z := 418363302244) (by decide) X lc_X12_278 dX12_isOwn_67 ?_
                  refine r_lcmp_eq (tgt := 82) X dX12_isOwn_70 dX12_isOwn_71 (by decide) hf (fun hc hf => ?_) (fun hc hf => ?_)
                  · exact w_X12_isOwn_b82 X hw (lv_sub hl [0] rfl) hf
                  · refine lv_lload_n hx hb dX12_isOwn_74 rfl (lv_at hl 1 rfl) ?_
                    refine r_ldc2 (z := 1651073395) (by decide) X lc_X12_280 dX12_isOwn_75 ?_
                    refine r_lcmp_ne (tgt := 84) X dX12_isOwn_78 dX12_isOwn_79 (by decide) hf (fun hc hf => ?_) (fun hc hf => ?_)
                    · refine lv_lload_n hx hb dX12_isOwn_84 rfl (lv_at hl 1 rfl) ?_
                      refine r_ldc2 (z := 126943754547827) (by decide) X lc_X12_282 dX12_isOwn_85 ?_
                      refine r_lcmp_eq (tgt := 124) X dX12_isOwn_88 dX12_isOwn_89 (by decide) hf (fun hc hf => ?_) (fun hc hf => ?_)
                      · exact w_X12_isOwn_b124 X hw (lv_sub hl [0] rfl) hf
                      · refine lv_lload_n hx hb dX12_isOwn_92 rfl (lv_at hl 1 rfl) ?_
                        refine r_ldc2 (z := 1735353715) (by decide) X lc_X12_284 dX12_isOwn_93 ?_
                        refine r_lcmp_eq (tgt := 124) X dX12_isOwn_96 dX12_isOwn_97 (by decide) hf (fun hc hf => ?_) (fun hc hf => ?_)
                        · exact w_X12_isOwn_b124 X hw (lv_sub hl [0] rfl) hf
                        · refine lv_lload_n hx hb dX12_isOwn_100 rfl (lv_at hl 1 rfl) ?_
                          refine r_ldc2 (z := 482906432882) (by decide) X lc_X12_286 dX12_isOwn_101 ?_
                          refine r_lcmp_eq (tgt := 124) X dX12_isOwn_104 dX12_isOwn_105 (by decide) hf (fun hc hf => ?_) (fun hc hf => ?_)
                          · exact w_X12_isOwn_b124 X hw (lv_sub hl [0] rfl) hf
                          · refine lv_lload_n hx hb dX12_isOwn_108 rfl (lv_at hl 1 rfl) ?_
                            refine r_ldc2 (z := 1818324336) (by decide) X lc_X12_288 dX12_isOwn_109 ?_
                            refine r_lcmp_eq (tgt := 124) X dX12_isOwn_112 dX12_isOwn_113 (by decide) hf (fun hc hf => ?_) (fun hc hf => ?_)
                            · exact w_X12_isOwn_b124 X hw (lv_sub hl [0] rfl) hf
                            · refine lv_lload_n hx hb dX12_isOwn_116 rfl (lv_at hl 1 rfl) ?_
                              refine r_ldc2 (z := 6513012) (by decide) X lc_X12_290 dX12_isOwn_117 ?_
                              refine r_lcmp_ne (tgt := 126) X dX12_isOwn_120 dX12_isOwn_121 (by decide) hf (fun hc hf => ?_) (fun hc hf => ?_)
                              · refine lv_lload_n hx hb dX12_isOwn_126 rfl (lv_at hl 1 rfl) ?_
                                refine r_ldc2 (z := 1818584692) (by decide) X lc_X12_292 dX12_isOwn_127 ?_
                                refine r_lcmp_eq (tgt := 166) X dX12_isOwn_130 dX12_isOwn_131 (by decide) hf (fun hc hf => ?_) (fun hc hf => ?_)
                                · exact w_X12_isOwn_b166 X hw (lv_sub hl [0] rfl) hf
                                · refine lv_lload_n hx hb dX12_isOwn_134 rfl (lv_at hl 1 rfl) ?_
                                  refine r_ldc2 (z := 491394656372) (by decide) X lc_X12_294 dX12_isOwn_135 ?_
                                  refine r_lcmp_eq (tgt := 166) X dX12_isOwn_138 dX12_isOwn_139 (by decide) hf (fun hc hf => ?_) (fun hc hf => ?_)
                                  · exact w_X12_isOwn_b166 X hw (lv_sub hl [0] rfl) hf
                                  · refine lv_lload_n hx hb dX12_isOwn_142 rfl (lv_at hl 1 rfl) ?_
                                    refine r_ldc2 (z := 7170404) (by decide) X lc_X12_296 dX12_isOwn_143 ?_
                                    refine r_lcmp_eq (tgt := 166) X dX12_isOwn_146 dX12_isOwn_147 (by decide) hf (fun hc hf => ?_) (fun hc hf => ?_)
                                    · exact w_X12_isOwn_b166 X hw (lv_sub hl [0] rfl) hf
                                    · refine lv_lload_n hx hb dX12_isOwn_150 rfl (lv_at hl 1 rfl) ?_
                                      refine r_ldc2 (z := 1819243380) (by decide) X lc_X12_298 dX12_isOwn_151 ?_
                                      refine r_lcmp_eq (tgt := 166) X dX12_isOwn_154 dX12_isOwn_155 (by decide) hf (fun hc hf => ?_) (fun hc hf => ?_)
                                      · exact w_X12_isOwn_b166 X hw (lv_sub hl [0] rfl) hf
                                      · refine lv_lload_n hx hb dX12_isOwn_158 rfl (lv_at hl 1 rfl) ?_
                                        refine r_ldc2 (z := 1937007984) (by decide) X lc_X12_300 dX12_isOwn_159 ?_
                                        refine r_lcmp_ne (tgt := 168) X dX12_isOwn_162 dX12_isOwn_163 (by decide) hf (fun hc hf => ?_) (fun hc hf => ?_)
                                        · refine lv_lload_n hx hb dX12_isOwn_168 rfl (lv_at hl 1 rfl) ?_
                                          refine r_ldc2 (z := 128047779833188) (by decide) X lc_X12_302 dX12_isOwn_169 ?_
                                          refine r_lcmp_eq (tgt := 208) X dX12_isOwn_172 dX12_isOwn_173 (by decide) hf (fun hc hf => ?_) (fun hc hf => ?_)
                                          · exact w_X12_isOwn_b208 X hw (lv_sub hl [0] rfl) hf
                                          · refine lv_lload_n hx hb dX12_isOwn_176 rfl (lv_at hl 1 rfl) ?_
                                            refine r_ldc2 (z := 26982) (by decide) X lc_X12_304 dX12_isOwn_177 ?_
                                            refine r_lcmp_eq (tgt := 208) X dX12_isOwn_180 dX12_isOwn_181 (by decide) hf (fun hc hf => ?_) (fun hc hf => ?_)
                                            · exact w_X12_isOwn_b208 X hw (lv_sub hl [0] rfl) hf
                                            · refine lv_lload_n hx hb dX12_isOwn_184 rfl (lv_at hl 1 rfl) ?_
                                              refine r_ldc2 (z := 28530) (by decide) X lc_X12_306 dX12_isOwn_185 ?_
                                              refine r_lcmp_eq (tgt := 208) X dX12_isOwn_188 dX12_isOwn_189 (by decide) hf (fun hc hf => ?_) (fun hc hf => ?_)
                                              · exact w_X12_isOwn_b208 X hw (lv_sub hl [0] rfl) hf
                                              · refine lv_lload_n hx hb dX12_isOwn_192 rfl (lv_at hl 1 rfl) ?_
                                                refine r_ldc2 (z := 6385252) (by decide) X lc_X12_308 dX12_isOwn_193 ?_
                                                refine r_lcmp_eq (tgt := 208) X dX12_isOwn_196 dX12_isOwn_197 (by decide) hf (fun hc hf => ?_) (fun hc hf => ?_)
                                                · exact w_X12_isOwn_b208 X hw (lv_sub hl [0] rfl) hf
                                                · refine lv_lload_n hx hb dX12_isOwn_200 rfl (lv_at hl 1 rfl) ?_
                                                  refine r_ldc2 (z := 7237492) (by decide) X lc_X12_310 dX12_isOwn_201 ?_
                                                  refine r_lcmp_ne (tgt := 210) X dX12_isOwn_204 dX12_isOwn_205 (by decide) hf (fun hc hf => ?_) (fun hc hf => ?_)
                                                  · refine lv_lload_n hx hb dX12_isOwn_210 rfl (lv_at hl 1 rfl) ?_
                                                    refine r_ldc2 (z := 6384748) (by decide) X lc_X12_312 dX12_isOwn_211 ?_
                                                    refine r_lcmp_eq (tgt := 234) X dX12_isOwn_214 dX12_isOwn_215 (by decide) hf (fun hc hf => ?_) (fun hc hf => ?_)
                                                    · exact w_X12_isOwn_b234 X hw (lv_sub hl [0] rfl) hf
                                                    · refine lv_lload_n hx hb dX12_isOwn_218 rfl (lv_at hl 1 rfl) ?_
                                                      refine r_ldc2 (z := 7170414) (by decide) X lc_X12_314 dX12_isOwn_219 ?_
                                                      refine r_lcmp_eq (tgt := 234) X dX12_isOwn_222 dX12_isOwn_223 (by decide) hf (fun hc hf => ?_) (fun hc hf => ?_)
                                                      · exact w_X12_isOwn_b234 X hw (lv_sub hl [0] rfl) hf
                                                      · refine lv_lload_n hx hb dX12_isOwn_226 rfl (lv_at hl 1 rfl) ?_
                                                        refine r_ldc2 (z := 7168376) (by decide) X lc_X12_316 dX12_isOwn_227 ?_
                                                        refine r_lcmp_ne (tgt := 236) X dX12_isOwn_230 dX12_isOwn_231 (by decide) hf (fun hc hf => ?_) (fun hc hf => ?_)
                                                        · refine lv_iconst (v := mI 0) hx hb dX12_isOwn_236 rfl ?_
                                                          exact r_zret X hw dX12_isOwn_237 hf
                                                        · exact w_X12_isOwn_b234 X hw (lv_sub hl [0] rfl) hf
                                                  · exact w_X12_isOwn_b208 X hw (lv_sub hl [0] rfl) hf
                                        · exact w_X12_isOwn_b166 X hw (lv_sub hl [0] rfl) hf
                              · exact w_X12_isOwn_b124 X hw (lv_sub hl [0] rfl) hf
                    · exact w_X12_isOwn_b82 X hw (lv_sub hl [0] rfl) hf
          · exact w_X12_isOwn_b40 X hw (lv_sub hl [0] rfl) hf
def g_X12_isDefault (F : Nat) (x1 : Int) (σ : mMem) : mRs := if 0 ≤ mw ((3 * x1) + 0) ∧ mw ((3 * x1) + 0) < (6 : Int) then mlm (mup σ 97 (mw ((3 * x1) + 0)).toNat 500) (fun σ1 => if 0 ≤ mw ((3 * x1) + 1) ∧ mw ((3 * x1) + 1) < (6 : Int) then mlm (mup σ1 97 (mw ((3 * x1) + 1)).toNat 0) (fun σ2 => if 0 ≤ mw ((3 * x1) + 2) ∧ mw ((3 * x1) + 2) < (6 : Int) then mlm (mup σ2 97 (mw ((3 * x1) + 2)).toNat 0) (fun σ3 => some (0, σ3)) else none) else none) else none
set_option maxRecDepth 100000 in
set_option maxHeartbeats 4000000 in
theorem c_X12_isDefault (l : Launch) (D : va_G) (cy : Nat → ClassId) (ad : Nat → Nat) (bs : Nat) (F : Nat)  (x1 : Int) (σ : mMem) (r : Int) (σ' : mMem)  (hf : g_X12_isDefault F x1 σ = some (r, σ')) : mCv l D cy ad bs yX12_isDefault cX12_isDefault 2 none 1 [.ref (ad 86), .int (mI x1)] σ σ' := by
  refine mCv.of (lv := [(0, .ref (ad 86)), (1, .int (mI x1))]) km_X12_isDefault.2.2.2.2.2 (Nat.le_of_ble_eq_true rfl) rfl (fun p e s m args below meth c H locs ls X hw hl => ?_)
  obtain ⟨⟨hx, hb, -, -, -⟩, -⟩ := id X
  unfold g_X12_isDefault at hf
  refine lv_aload_n hx hb dX12_isDefault_0 rfl (lv_at hl 0 rfl) ?_
  refine r_getr 97 X hw sh_86 fd_12_23 rfl rfl lf_X12_81 dX12_isDefault_1 ?_
  refine lv_iconst (v := mI 3) hx hb dX12_isDefault_4 rfl ?_
  refine lv_iload_n hx hb dX12_isDefault_5 rfl (lv_at hl 1 rfl) ?_
  refine r_imul X dX12_isDefault_6 ?_
  refine lv_iconst (v := mI 0) hx hb dX12_isDefault_7 rfl ?_
  refine r_iadd X dX12_isDefault_8 ?_
  refine lv_sipush (v := mI 500) hx hb dX12_isDefault_9 (by decide) ?_
  refine r_iast (6 : Int) rfl X hw sh_97 dX12_isDefault_12 hf (fun hf H locs hw => ?_)
  refine r_mem hf hw (fun σ1 hw hf => ?_)
  refine lv_aload_n hx hb dX12_isDefault_13 rfl (lv_at hl 0 rfl) ?_
  refine r_getr 97 X hw sh_86 fd_12_23 rfl rfl lf_X12_81 dX12_isDefault_14 ?_
  refine lv_iconst (v := mI 3) hx hb dX12_isDefault_17 rfl ?_
  refine lv_iload_n hx hb dX12_isDefault_18 rfl (lv_at hl 1 rfl) ?_
  refine r_imul X dX12_isDefault_19 ?_
  refine lv_iconst (v := mI 1) hx hb dX12_isDefault_20 rfl ?_
  refine r_iadd X dX12_isDefault_21 ?_
  refine lv_iconst (v := mI 0) hx hb dX12_isDefault_22 rfl ?_
  refine r_iast (6 : Int) rfl X hw sh_97 dX12_isDefault_23 hf (fun hf H locs hw => ?_)
  refine r_mem hf hw (fun σ2 hw hf => ?_)
  refine lv_aload_n hx hb dX12_isDefault_24 rfl (lv_at hl 0 rfl) ?_
  refine r_getr 97 X hw sh_86 fd_12_23 rfl rfl lf_X12_81 dX12_isDefault_25 ?_
  refine lv_iconst (v := mI 3) hx hb dX12_isDefault_28 rfl ?_
  refine lv_iload_n hx hb dX12_isDefault_29 rfl (lv_at hl 1 rfl) ?_
  refine r_imul X dX12_isDefault_30 ?_
  refine lv_iconst (v := mI 2) hx hb dX12_isDefault_31 rfl ?_
  refine r_iadd X dX12_isDefault_32 ?_
  refine lv_iconst (v := mI 0) hx hb dX12_isDefault_33 rfl ?_
  refine r_iast (6 : Int) rfl X hw sh_97 dX12_isDefault_34 hf (fun hf H locs hw => ?_)
  refine r_mem hf hw (fun σ3 hw hf => ?_)
  exact r_vret X hw dX12_isDefault_35 hf
