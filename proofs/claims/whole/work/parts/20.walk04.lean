def g_X1_readSteers (F : Nat) (p1 : Nat) (σ : mMem) : mRs := mlm (mup σ 19 1 ((p1 : Nat) : Int)) (fun σ1 => if mw 0 = 0 ∨ mw 0 = 1 then mlm (mup σ1 19 2 0) (fun σ2 => mob (g_X8_next F σ2) (fun r3 σ4 => if σ4 19 1 = 3 ∨ σ4 19 1 = 8 then if σ4 19 1 = 3 ∨ σ4 19 1 = 8 then mlm (mup σ4 (σ4 19 1).toNat 5 (σ4 (σ4 19 1).toNat 4)) (fun σ7 => mob (g_X1_rec F 80 4 0 0 σ7) (fun r8 σ9 => if σ9 19 1 = 3 ∨ σ9 19 1 = 8 then if σ9 19 1 = 3 ∨ σ9 19 1 = 8 then mlm (mup σ9 (σ9 19 1).toNat 6 (σ9 (σ9 19 1).toNat 4)) (fun σ12 => some (0, σ12)) else none else none)) else none else none)) else none)
set_option maxRecDepth 100000 in
set_option maxHeartbeats 4000000 in
theorem c_X1_readSteers (l : Launch) (D : va_G) (cy : Nat → ClassId) (ad : Nat → Nat) (bs : Nat) (F : Nat) (p1 : Nat)  (σ : mMem) (r : Int) (σ' : mMem) (hp1 : mPlan p1) (hf : g_X1_readSteers F p1 σ = some (r, σ')) : mCv l D cy ad bs yX1_readSteers cX1_readSteers 2 none 95 [.ref (ad 19), .ref (ad p1)] σ σ' := by
  refine mCv.of (lv := [(0, .ref (ad 19)), (1, .ref (ad p1))]) km_X1_readSteers.2.2.2.2.2 (Nat.le_of_ble_eq_true rfl) rfl (fun p e s m args below meth c H locs ls X hw hl => ?_)
  obtain ⟨⟨hx, hb, -, -, -⟩, -⟩ := id X
  unfold g_X1_readSteers at hf
  refine lv_aload_n hx hb dX1_readSteers_0 rfl (lv_at hl 0 rfl) ?_
  refine lv_aload_n hx hb dX1_readSteers_1 rfl (lv_at hl 1 rfl) ?_
  refine r_putd X hw sh_19 fd_1_1 fp_1_1 rfl rfl lf_X1_15 dX1_readSteers_2 (fun H locs hw => ?_)
  refine r_mem hf hw (fun σ1 hw hf => ?_)
  refine lv_aload_n hx hb dX1_readSteers_5 rfl (lv_at hl 0 rfl) ?_
  refine lv_iconst (v := mI 0) hx hb dX1_readSteers_6 rfl ?_
  refine r_putz X hw sh_19 fd_1_2 fp_1_2 rfl rfl lf_X1_19 dX1_readSteers_7 hf (fun hf H locs hw => ?_)
  refine r_mem hf hw (fun σ2 hw hf => ?_)
  refine lv_aload_n hx hb dX1_readSteers_10 rfl (lv_at hl 0 rfl) ?_
  refine r_getr 14 X hw sh_19 fd_1_0 rfl rfl lf_X1_9 dX1_readSteers_11 ?_
  refine r_cvv (rest := []) [] X hw (fun ra σa h => c_X8_next l D cy ad bs F σ2 ra σa  h) sh_14 rfl (by decide) rfl km_X8_next kv_X8_next lm_X1_23 dX1_readSteers_14 hl.1 rfl rfl (Nat.le_of_ble_eq_true rfl) ⟨by decide, by decide⟩ ⟨Nat.zero_le _, Nat.zero_le _⟩ hf (fun r3 σ4 _ hf H locs hw => ?_)
  refine lv_aload_n hx hb dX1_readSteers_17 rfl (lv_at hl 0 rfl) ?_
  refine r_getp X hw sh_19 fd_1_1 rfl lf_X1_15 dX1_readSteers_18 hf (fun hg5 hf => ?_)
  refine lv_aload_n hx hb dX1_readSteers_21 rfl (lv_at hl 0 rfl) ?_
  refine r_getp X hw sh_19 fd_1_1 rfl lf_X1_15 dX1_readSteers_22 hf (fun hg6 hf => ?_)
  refine r_geti X hw (mPlan_z hg6).1 fd_5_4 rfl lf_X1_28 dX1_readSteers_25 ?_
  refine r_puti X hw (mPlan_z hg5).1 fd_5_5 fp_5_5 rfl rfl lf_X1_34 dX1_readSteers_28 (fun H locs hw => ?_)
  refine r_mem hf hw (fun σ7 hw hf => ?_)
  refine lv_aload_n hx hb dX1_readSteers_31 rfl (lv_at hl 0 rfl) ?_
  refine lv_iconst (v := mI 0) hx hb dX1_readSteers_32 rfl ?_
  refine r_cvv (rest := []) [.int (mI 0)] X hw (fun ra σa h => (c_X1_rec l D cy ad bs F 80).2.2.2.2.1 0 0 σ7 ra σa h) sh_19 rfl (by decide) rfl km_X1_sum kv_X1_sum lm_X1_37 dX1_readSteers_33 hl.1 rfl rfl (Nat.le_of_ble_eq_true rfl) ⟨by decide, by decide⟩ ⟨Nat.zero_le _, Nat.zero_le _⟩ hf (fun r8 σ9 _ hf H locs hw => ?_)
  refine lv_aload_n hx hb dX1_readSteers_36 rfl (lv_at hl 0 rfl) ?_
  refine r_getp X hw sh_19 fd_1_1 rfl lf_X1_15 dX1_readSteers_37 hf (fun hg10 hf => ?_)
  refine lv_aload_n hx hb dX1_readSteers_40 rfl (lv_at hl 0 rfl) ?_
  refine r_getp X hw sh_19 fd_1_1 rfl lf_X1_15 dX1_readSteers_41 hf (fun hg11 hf => ?_)
  refine r_geti X hw (mPlan_z hg11).1 fd_5_4 rfl lf_X1_28 dX1_readSteers_44 ?_
  refine r_puti X hw (mPlan_z hg10).1 fd_5_6 fp_5_6 rfl rfl lf_X1_41 dX1_readSteers_47 (fun H locs hw => ?_)
  refine r_mem hf hw (fun σ12 hw hf => ?_)
  exact r_vret X hw dX1_readSteers_50 hf
def g_X1_readGoes (F : Nat) (p1 : Nat) (σ : mMem) : mRs := mlm (mup σ 19 1 ((p1 : Nat) : Int)) (fun σ1 => if mw 1 = 0 ∨ mw 1 = 1 then mlm (mup σ1 19 2 1) (fun σ2 => mob (g_X8_next F σ2) (fun r3 σ4 => if σ4 19 1 = 3 ∨ σ4 19 1 = 8 then if σ4 19 1 = 3 ∨ σ4 19 1 = 8 then mlm (mup σ4 (σ4 19 1).toNat 7 (σ4 (σ4 19 1).toNat 4)) (fun σ7 => mob (g_X1_rec F 80 0 0 0 σ7) (fun r8 σ9 => if σ9 19 1 = 3 ∨ σ9 19 1 = 8 then if σ9 19 1 = 3 ∨ σ9 19 1 = 8 then mlm (mup σ9 (σ9 19 1).toNat 8 (σ9 (σ9 19 1).toNat 4)) (fun σ12 => some (0, σ12)) else none else none)) else none else none)) else none)
set_option maxRecDepth 100000 in
set_option maxHeartbeats 4000000 in
theorem c_X1_readGoes (l : Launch) (D : va_G) (cy : Nat → ClassId) (ad : Nat → Nat) (bs : Nat) (F : Nat) (p1 : Nat)  (σ : mMem) (r : Int) (σ' : mMem) (hp1 : mPlan p1) (hf : g_X1_readGoes F p1 σ = some (r, σ')) : mCv l D cy ad bs yX1_readGoes cX1_readGoes 2 none 95 [.ref (ad 19), .ref (ad p1)] σ σ' := by
  refine mCv.of (lv := [(0, .ref (ad 19)), (1, .ref (ad p1))]) km_X1_readGoes.2.2.2.2.2 (Nat.le_of_ble_eq_true rfl) rfl (fun p e s m args below meth c H locs ls X hw hl => ?_)
  obtain ⟨⟨hx, hb, -, -, -⟩, -⟩ := id X
  unfold g_X1_readGoes at hf
  refine lv_aload_n hx hb dX1_readGoes_0 rfl (lv_at hl 0 rfl) ?_
  refine lv_aload_n hx hb dX1_readGoes_1 rfl (lv_at hl 1 rfl) ?_
  refine r_putd X hw sh_19 fd_1_1 fp_1_1 rfl rfl lf_X1_15 dX1_readGoes_2 (fun H locs hw => ?_)
  refine r_mem hf hw (fun σ1 hw hf => ?_)
  refine lv_aload_n hx hb dX1_readGoes_5 rfl (lv_at hl 0 rfl) ?_
  refine lv_iconst (v := mI 1) hx hb dX1_readGoes_6 rfl ?_
  refine r_putz X hw sh_19 fd_1_2 fp_1_2 rfl rfl lf_X1_19 dX1_readGoes_7 hf (fun hf H locs hw => ?_)
  refine r_mem hf hw (fun σ2 hw hf => ?_)
  refine lv_aload_n hx hb dX1_readGoes_10 rfl (lv_at hl 0 rfl) ?_
  refine r_getr 14 X hw sh_19 fd_1_0 rfl rfl lf_X1_9 dX1_readGoes_11 ?_
  refine r_cvv (rest := []) [] X hw (fun ra σa h => c_X8_next l D cy ad bs F σ2 ra σa  h) sh_14 rfl (by decide) rfl km_X8_next kv_X8_next lm_X1_23 dX1_readGoes_14 hl.1 rfl rfl (Nat.le_of_ble_eq_true rfl) ⟨by decide, by decide⟩ ⟨Nat.zero_le _, Nat.zero_le _⟩ hf (fun r3 σ4 _ hf H locs hw => ?_)
  refine lv_aload_n hx hb dX1_readGoes_17 rfl (lv_at hl 0 rfl) ?_
  refine r_getp X hw sh_19 fd_1_1 rfl lf_X1_15 dX1_readGoes_18 hf (fun hg5 hf => ?_)
  refine lv_aload_n hx hb dX1_readGoes_21 rfl (lv_at hl 0 rfl) ?_
  refine r_getp X hw sh_19 fd_1_1 rfl lf_X1_15 dX1_readGoes_22 hf (fun hg6 hf => ?_)
  refine r_geti X hw (mPlan_z hg6).1 fd_5_4 rfl lf_X1_28 dX1_readGoes_25 ?_
  refine r_puti X hw (mPlan_z hg5).1 fd_5_7 fp_5_7 rfl rfl lf_X1_44 dX1_readGoes_28 (fun H locs hw => ?_)
  refine r_mem hf hw (fun σ7 hw hf => ?_)
  refine lv_aload_n hx hb dX1_readGoes_31 rfl (lv_at hl 0 rfl) ?_
  refine lv_iconst (v := mI 0) hx hb dX1_readGoes_32 rfl ?_
  refine r_cvv (rest := []) [.int (mI 0)] X hw (fun ra σa h => (c_X1_rec l D cy ad bs F 80).1 0 0 σ7 ra σa h) sh_19 rfl (by decide) rfl km_X1_test kv_X1_test lm_X1_47 dX1_readGoes_33 hl.1 rfl rfl (Nat.le_of_ble_eq_true rfl) ⟨by decide, by decide⟩ ⟨Nat.zero_le _, Nat.zero_le _⟩ hf (fun r8 σ9 _ hf H locs hw => ?_)
  refine lv_aload_n hx hb dX1_readGoes_36 rfl (lv_at hl 0 rfl) ?_
  refine r_getp X hw sh_19 fd_1_1 rfl lf_X1_15 dX1_readGoes_37 hf (fun hg10 hf => ?_)
  refine lv_aload_n hx hb dX1_readGoes_40 rfl (lv_at hl 0 rfl) ?_
  refine r_getp X hw sh_19 fd_1_1 rfl lf_X1_15 dX1_readGoes_41 hf (fun hg11 hf => ?_)
  refine r_geti X hw (mPlan_z hg11).1 fd_5_4 rfl lf_X1_28 dX1_readGoes_44 ?_
  refine r_puti X hw (mPlan_z hg10).1 fd_5_8 fp_5_8 rfl rfl lf_X1_50 dX1_readGoes_47 (fun H locs hw => ?_)
  refine r_mem hf hw (fun σ12 hw hf => ?_)
  exact r_vret X hw dX1_readGoes_50 hf
def g_X3_forget (F : Nat) (σ : mMem) : mRs := mlm (mup σ 54 2 0) (fun σ1 => mlm (mup σ1 54 3 0) (fun σ2 => mlm (mup σ2 54 4 0) (fun σ3 => some (0, σ3))))
set_option maxRecDepth 100000 in
set_option maxHeartbeats 4000000 in
theorem c_X3_forget (l : Launch) (D : va_G) (cy : Nat → ClassId) (ad : Nat → Nat) (bs : Nat) (F : Nat)   (σ : mMem) (r : Int) (σ' : mMem)  (hf : g_X3_forget F  σ = some (r, σ')) : mCv l D cy ad bs yX3_forget cX3_forget 1 none 1 [.ref (ad 54)] σ σ' := by
  refine mCv.of (lv := [(0, .ref (ad 54))]) km_X3_forget.2.2.2.2.2 (Nat.le_of_ble_eq_true rfl) rfl (fun p e s m args below meth c H locs ls X hw hl => ?_)
  obtain ⟨⟨hx, hb, -, -, -⟩, -⟩ := id X
  unfold g_X3_forget at hf
  refine lv_aload_n hx hb dX3_forget_0 rfl (lv_at hl 0 rfl) ?_
  refine lv_iconst (v := mI 0) hx hb dX3_forget_1 rfl ?_
  refine r_puti X hw sh_54 fd_3_2 fp_3_2 rfl rfl lf_X3_25 dX3_forget_2 (fun H locs hw => ?_)
  refine r_mem hf hw (fun σ1 hw hf => ?_)
  refine lv_aload_n hx hb dX3_forget_5 rfl (lv_at hl 0 rfl) ?_
  refine lv_iconst (v := mI 0) hx hb dX3_forget_6 rfl ?_
  refine r_puti X hw sh_54 fd_3_3 fp_3_3 rfl rfl lf_X3_29 dX3_forget_7 (fun H locs hw => ?_)
  refine r_mem hf hw (fun σ2 hw hf => ?_)
  refine lv_aload_n hx hb dX3_forget_10 rfl (lv_at hl 0 rfl) ?_
  refine lv_iconst (v := mI 0) hx hb dX3_forget_11 rfl ?_
  refine r_puti X hw sh_54 fd_3_4 fp_3_4 rfl rfl lf_X3_32 dX3_forget_12 (fun H locs hw => ?_)
  refine r_mem hf hw (fun σ3 hw hf => ?_)
  exact r_vret X hw dX3_forget_15 hf
def g_X3_told (F : Nat) (σ : mMem) : mRs := mob (g_J9_min_7cf53 F (σ 54 2) 60 σ) (fun r1 σ2 => some (r1, σ2))
set_option maxRecDepth 100000 in
set_option maxHeartbeats 4000000 in
theorem c_X3_told (l : Launch) (D : va_G) (cy : Nat → ClassId) (ad : Nat → Nat) (bs : Nat) (F : Nat)   (σ : mMem) (r : Int) (σ' : mMem)  (hf : g_X3_told F  σ = some (r, σ')) : mCi l D cy ad bs yX3_told cX3_told 1 (some .int) 2 [.ref (ad 54)] σ r σ' := by
  refine mCi.of (lv := [(0, .ref (ad 54))]) km_X3_told.2.2.2.2.2 (Nat.le_of_ble_eq_true rfl) rfl (fun p e s m args below meth c H locs ls X hw hl => ?_)
  obtain ⟨⟨hx, hb, -, -, -⟩, -⟩ := id X
  unfold g_X3_told at hf
  refine lv_aload_n hx hb dX3_told_0 rfl (lv_at hl 0 rfl) ?_
  refine r_geti X hw sh_54 fd_3_2 rfl lf_X3_25 dX3_told_1 ?_
  refine lv_bipush (v := mI 60) hx hb dX3_told_4 (by decide) ?_
  refine r_csi (rest := []) [.int (mI (σ 54 2)), .int (mI 60)] X hw (fun ra σa h => c_J9_min_7cf53 l D cy ad bs F (σ 54 2) 60 σ ra σa  h) km_J9_min_7cf53 ks_J9_min_7cf53 lm_X3_35 dX3_told_6 hl.1 rfl rfl (Nat.le_of_ble_eq_true rfl) ⟨by decide, by decide⟩ ⟨Nat.zero_le _, Nat.zero_le _⟩ hf (fun r1 σ2 _ hf H locs hw => ?_)
  exact r_iret X hw dX3_told_9 hf
def g_J9_floorMod_7cf53_b18 (F : Nat)  (x2 : Int) (σ : mMem) : mRs := some (x2, σ)
set_option maxRecDepth 100000 in
set_option maxHeartbeats 4000000 in
theorem w_J9_floorMod_7cf53_b18 {p : Program} {l : Launch} {e : Env} {s : State} {m : MethodId} {args : Array Value} {below : List Frame} {meth : Method} {c : Code} {D : va_G} {cy : Nat → ClassId} {ad : Nat → Nat} {bs : Nat} {F : Nat}  (X : mCx p m c cJ9_floorMod_7cf53 3 s args RJ9 meth D cy (some .int))  {r : Int} {σ' : mMem}   {x2 : Int} {σ : mMem} {H : Heap} {locs : List Loc} {ls : Array Slot} (hw : mWd D cy ad bs true mN σ s.heap H locs) (hl : lv_has ls 3 [(2, .int (mI x2))]) (hf : g_J9_floorMod_7cf53_b18 F x2 σ = some (r, σ')) : mGi p l e 1 s m args below meth c D cy ad bs r σ' H locs (F0 m 18 ls []) := by
  obtain ⟨⟨hx, hb, -, -, -⟩, -⟩ := id X
  unfold g_J9_floorMod_7cf53_b18 at hf
  refine lv_iload_n hx hb dJ9_floorMod_7cf53_18 rfl (lv_at hl 0 rfl) ?_
  exact r_iret X hw dJ9_floorMod_7cf53_19 hf
def g_J9_floorMod_7cf53 (F : Nat) (x0 x1 : Int) (σ : mMem) : mRs := if mw x1 = 0 then none else (mlet ((mw x0).tmod (mw x1)) (fun y1 => if 0 ≤ mw (mxor x0 x1) then (g_J9_floorMod_7cf53_b18 F y1 σ) else (if mw y1 = 0 then (g_J9_floorMod_7cf53_b18 F y1 σ) else (some (y1 + x1, σ)))))
set_option maxRecDepth 100000 in
set_option maxHeartbeats 4000000 in
theorem c_J9_floorMod_7cf53 (l : Launch) (D : va_G) (cy : Nat → ClassId) (ad : Nat → Nat) (bs : Nat) (F : Nat)  (x0 x1 : Int) (σ : mMem) (r : Int) (σ' : mMem)  (hf : g_J9_floorMod_7cf53 F x0 x1 σ = some (r, σ')) : mCi l D cy ad bs yJ9_floorMod_7cf53 cJ9_floorMod_7cf53 3 (some .int) 1 [.int (mI x0), .int (mI x1)] σ r σ' := by
  refine mCi.of (lv := [(0, .int (mI x0)), (1, .int (mI x1))]) km_J9_floorMod_7cf53.2.2.2.2.2 (Nat.le_of_ble_eq_true rfl) rfl (fun p e s m args below meth c H locs ls X hw hl => ?_)
  obtain ⟨⟨hx, hb, -, -, -⟩, -⟩ := id X
  unfold g_J9_floorMod_7cf53 at hf
  refine lv_iload_n hx hb dJ9_floorMod_7cf53_0 rfl (lv_at hl 0 rfl) ?_
  refine lv_iload_n hx hb dJ9_floorMod_7cf53_1 rfl (lv_at hl 1 rfl) ?_
  refine r_irem X dJ9_floorMod_7cf53_2 hf (fun hf => ?_)
  refine r_leti hf (fun y1 hf => ?_)
  refine lv_istore_n (lv' := [(2, .int (mI y1)), (0, .int (mI x0)), (1, .int (mI x1))]) hx hb dJ9_floorMod_7cf53_3 rfl hl (by decide) rfl (fun ls hl => ?_)
  refine lv_iload_n hx hb dJ9_floorMod_7cf53_4 rfl (lv_at hl 1 rfl) ?_
  refine lv_iload_n hx hb dJ9_floorMod_7cf53_5 rfl (lv_at hl 2 rfl) ?_
  refine r_ixor X dJ9_floorMod_7cf53_6 ?_
  refine r_if_ge (tgt := 18) X dJ9_floorMod_7cf53_7 (by decide) hf (fun hc hf => ?_) (fun hc hf => ?_)
  · exact w_J9_floorMod_7cf53_b18 X hw (lv_sub hl [0] rfl) hf
  · refine lv_iload_n hx hb dJ9_floorMod_7cf53_10 rfl (lv_at hl 0 rfl) ?_
    refine r_if_eq (tgt := 18) X dJ9_floorMod_7cf53_11 (by decide) hf (fun hc hf => ?_) (fun hc hf => ?_)
    · exact w_J9_floorMod_7cf53_b18 X hw (lv_sub hl [0] rfl) hf
    · refine lv_iload_n hx hb dJ9_floorMod_7cf53_14 rfl (lv_at hl 0 rfl) ?_
      refine lv_iload_n hx hb dJ9_floorMod_7cf53_15 rfl (lv_at hl 2 rfl) ?_
      refine r_iadd X dJ9_floorMod_7cf53_16 ?_
      exact r_iret X hw dJ9_floorMod_7cf53_17 hf
def g_X10_saveTo_b35 (F : Nat) (o : Nat) (a1 n1 : Nat)  (σ : mMem) : mRs := some (0, σ)
set_option maxRecDepth 100000 in
set_option maxHeartbeats 4000000 in
theorem w_X10_saveTo_b35 {p : Program} {l : Launch} {e : Env} {s : State} {m : MethodId} {args : Array Value} {below : List Frame} {meth : Method} {c : Code} {D : va_G} {cy : Nat → ClassId} {ad : Nat → Nat} {bs : Nat} {F : Nat} {o : Nat} {a1 n1 : Nat} (X : mCx p m c cX10_saveTo 2 s args RX10 meth D cy none) (ho : mWorld o) (ha1 : mSh a1 = (13, n1)) {r : Int} {σ' : mMem}    {σ : mMem} {H : Heap} {locs : List Loc} {ls : Array Slot} (hw : mWd D cy ad bs true mN σ s.heap H locs) (hl : lv_has ls 2 [(0, .ref (ad o)), (1, .ref (ad a1))]) (hf : g_X10_saveTo_b35 F o a1 n1  σ = some (r, σ')) : mGv p l e 1 s m args below meth c D cy ad bs σ' H locs (F0 m 35 ls []) := by
  obtain ⟨⟨hx, hb, -, -, -⟩, -⟩ := id X
  unfold g_X10_saveTo_b35 at hf
  exact r_vret X hw dX10_saveTo_35 hf
def g_X10_saveTo (F : Nat) (o : Nat) (a1 n1 : Nat) (σ : mMem) : mRs := if mw (n1 : Int) < mw 62 then (g_X10_saveTo_b35 F o a1 n1 σ) else (if 0 ≤ mw 0 ∧ 0 ≤ mw 0 ∧ 0 ≤ mw 60 ∧ mw 0 + mw 60 ≤ (60 : Int) ∧ mw 0 + mw 60 ≤ (n1 : Int) then mlm (mupo σ a1 (mcpy (σ (o + 1)) (σ a1) (mw 0).toNat (mw 0).toNat (mw 60).toNat)) (fun σ1 => if 0 ≤ mw 60 ∧ mw 60 < (n1 : Int) then mlm (mup σ1 a1 (mw 60).toNat (σ1 o 4)) (fun σ2 => if 0 ≤ mw 61 ∧ mw 61 < (n1 : Int) then mlm (mup σ2 a1 (mw 61).toNat (σ2 o 5)) (fun σ3 => g_X10_saveTo_b35 F o a1 n1 σ3) else none) else none) else none)
set_option maxRecDepth 100000 in
set_option maxHeartbeats 4000000 in
theorem c_X10_saveTo (l : Launch) (D : va_G) (cy : Nat → ClassId) (ad : Nat → Nat) (bs : Nat) (F : Nat) (o : Nat) (a1 n1 : Nat)  (σ : mMem) (r : Int) (σ' : mMem) (ho : mWorld o) (ha1 : mSh a1 = (13, n1)) (hf : g_X10_saveTo F o a1 n1 σ = some (r, σ')) : mCv l D cy ad bs yX10_saveTo cX10_saveTo 2 none 1 [.ref (ad o), .ref (ad a1)] σ σ' := by
  refine mCv.of (lv := [(0, .ref (ad o)), (1, .ref (ad a1))]) km_X10_saveTo.2.2.2.2.2 (Nat.le_of_ble_eq_true rfl) rfl (fun p e s m args below meth c H locs ls X hw hl => ?_)
  obtain ⟨⟨hx, hb, -, -, -⟩, -⟩ := id X
  unfold g_X10_saveTo at hf
  refine lv_aload_n hx hb dX10_saveTo_0 rfl (lv_at hl 1 rfl) ?_
  refine r_ileni (n1 : Int) rfl X hw ha1 dX10_saveTo_1 ?_
  refine lv_bipush (v := mI 62) hx hb dX10_saveTo_2 (by decide) ?_
  refine r_icmp_lt (tgt := 35) X dX10_saveTo_4 (by decide) hf (fun hc hf => ?_) (fun hc hf => ?_)
  · exact w_X10_saveTo_b35 X ho ha1 hw (lv_sub hl [0, 1] rfl) hf
  · refine lv_aload_n hx hb dX10_saveTo_7 rfl (lv_at hl 0 rfl) ?_
    refine r_getr (o + 1) X hw ho.1 fd_10_0 rfl rfl lf_X10_13 dX10_saveTo_8 ?_
    refine lv_iconst (v := mI 0) hx hb dX10_saveTo_11 rfl ?_
    refine lv_aload_n hx hb dX10_saveTo_12 rfl (lv_at hl 1 rfl) ?_
    refine lv_iconst (v := mI 0) hx hb dX10_saveTo_13 rfl ?_
    refine lv_bipush (v := mI 60) hx hb dX10_saveTo_14 (by decide) ?_
    refine r_copy (rest := []) (60 : Int) (n1 : Int) rfl rfl X hw ho.2.1 ha1 lm_X10_49 ka_nat ka_stat ka_ini hl.1 (by decide) (Nat.le_of_ble_eq_true rfl) dX10_saveTo_16 hf (fun hf H locs hw => ?_)
    refine r_mem hf hw (fun σ1 hw hf => ?_)
    refine lv_aload_n hx hb dX10_saveTo_19 rfl (lv_at hl 1 rfl) ?_
    refine lv_bipush (v := mI 60) hx hb dX10_saveTo_20 (by decide) ?_
    refine lv_aload_n hx hb dX10_saveTo_22 rfl (lv_at hl 0 rfl) ?_
    refine r_geti X hw ho.1 fd_10_4 rfl lf_X10_32 dX10_saveTo_23 ?_
    refine r_iast (n1 : Int) rfl X hw ha1 dX10_saveTo_26 hf (fun hf H locs hw => ?_)
    refine r_mem hf hw (fun σ2 hw hf => ?_)
    refine lv_aload_n hx hb dX10_saveTo_27 rfl (lv_at hl 1 rfl) ?_
    refine lv_bipush (v := mI 61) hx hb dX10_saveTo_28 (by decide) ?_
    refine lv_aload_n hx hb dX10_saveTo_30 rfl (lv_at hl 0 rfl) ?_
    refine r_geti X hw ho.1 fd_10_5 rfl lf_X10_36 dX10_saveTo_31 ?_
    refine r_iast (n1 : Int) rfl X hw ha1 dX10_saveTo_34 hf (fun hf H locs hw => ?_)
    refine r_mem hf hw (fun σ3 hw hf => ?_)
    exact w_X10_saveTo_b35 X ho ha1 hw (lv_sub hl [0, 1] rfl) hf
def g_X3_remember (F : Nat) (w1 : Nat) (σ : mMem) : mRs := mob (g_J9_floorMod_7cf53 F (σ 54 3) 20 σ) (fun r1 σ2 => if 0 ≤ mw r1 ∧ mw r1 < (20 : Int) then mob (g_X10_saveTo F w1 (55 + 1 + (mw r1).toNat) 123 σ2) (fun r4 σ5 => if 0 ≤ mw 62 ∧ mw 62 < (123 : Int) then mlm (mup σ5 (55 + 1 + (mw r1).toNat) (mw 62).toNat (σ5 54 2)) (fun σ6 => if 0 ≤ mw 0 ∧ 0 ≤ mw 63 ∧ 0 ≤ mw 60 ∧ mw 0 + mw 60 ≤ (60 : Int) ∧ mw 63 + mw 60 ≤ (123 : Int) then mlm (mupo σ6 (55 + 1 + (mw r1).toNat) (mcpy (σ6 76) (σ6 (55 + 1 + (mw r1).toNat)) (mw 0).toNat (mw 63).toNat (mw 60).toNat)) (fun σ7 => if mw 20 = 0 then none else (mlm (mup σ7 54 3 ((mw ((σ7 54 3) + 1)).tmod (mw 20))) (fun σ8 => mob (g_J9_min_7cf53 F 20 ((σ8 54 4) + 1) σ8) (fun r9 σ10 => mlm (mup σ10 54 4 r9) (fun σ11 => some (0, σ11)))))) else none) else none) else none)
set_option maxRecDepth 100000 in
set_option maxHeartbeats 4000000 in
theorem c_X3_remember (l : Launch) (D : va_G) (cy : Nat → ClassId) (ad : Nat → Nat) (bs : Nat) (F : Nat) (w1 : Nat)  (σ : mMem) (r : Int) (σ' : mMem) (hw1 : mWorld w1) (hf : g_X3_remember F w1 σ = some (r, σ')) : mCv l D cy ad bs yX3_remember cX3_remember 3 none 2 [.ref (ad 54), .ref (ad w1)] σ σ' := by
  refine mCv.of (lv := [(0, .ref (ad 54)), (1, .ref (ad w1))]) km_X3_remember.2.2.2.2.2 (Nat.le_of_ble_eq_true rfl) rfl (fun p e s m args below meth c H locs ls X hw hl => ?_)
  obtain ⟨⟨hx, hb, -, -, -⟩, -⟩ := id X
  unfold g_X3_remember at hf
  refine lv_aload_n hx hb dX3_remember_0 rfl (lv_at hl 0 rfl) ?_
  refine r_getr 55 X hw sh_54 fd_3_0 rfl rfl lf_X3_15 dX3_remember_1 ?_
  refine lv_aload_n hx hb dX3_remember_4 rfl (lv_at hl 0 rfl) ?_
  refine r_geti X hw sh_54 fd_3_3 rfl lf_X3_29 dX3_remember_5 ?_
  refine lv_bipush (v := mI 20) hx hb dX3_remember_8 (by decide) ?_
  refine r_csi (rest := [.ref (ad 55)]) [.int (mI (σ 54 3)), .int (mI 20)] X hw (fun ra σa h => c_J9_floorMod_7cf53 l D cy ad bs F (σ 54 3) 20 σ ra σa  h) km_J9_floorMod_7cf53 ks_J9_floorMod_7cf53 lm_X3_41 dX3_remember_10 hl.1 rfl rfl (Nat.le_of_ble_eq_true rfl) ⟨by decide, by decide⟩ ⟨Nat.zero_le _, Nat.zero_le _⟩ hf (fun r1 σ2 _ hf H locs hw => ?_)
  refine r_aald (20 : Int) rfl X hw sh_55 dX3_remember_13 hf (fun hj3 hf => ?_)
  refine lv_astore_n (lv' := [(2, .ref (ad (55 + 1 + (mw r1).toNat))), (0, .ref (ad 54)), (1, .ref (ad w1))]) hx hb dX3_remember_14 rfl hl (by decide) rfl (fun ls hl => ?_)
  refine lv_aload_n hx hb dX3_remember_15 rfl (lv_at hl 2 rfl) ?_
  refine lv_aload_n hx hb dX3_remember_16 rfl (lv_at hl 0 rfl) ?_
  refine r_cvv (rest := []) [.ref (ad (55 + 1 + (mw r1).toNat))] X hw (fun ra σa h => c_X10_saveTo l D cy ad bs F w1 (55 + 1 + (mw r1).toNat) 123 σ2 ra σa hw1 (sh_r55 _ hj3) h) hw1.1 rfl (by decide) rfl km_X10_saveTo kv_X10_saveTo lm_X3_44 dX3_remember_17 hl.1 rfl rfl (Nat.le_of_ble_eq_true rfl) ⟨by decide, by decide⟩ ⟨Nat.zero_le _, Nat.zero_le _⟩ hf (fun r4 σ5 _ hf H locs hw => ?_)
  refine lv_aload_n hx hb dX3_remember_20 rfl (lv_at hl 0 rfl) ?_
  refine lv_bipush (v := mI 62) hx hb dX3_remember_21 (by decide) ?_
  refine lv_aload_n hx hb dX3_remember_23 rfl (lv_at hl 1 rfl) ?_
  refine r_geti X hw sh_54 fd_3_2 rfl lf_X3_25 dX3_remember_24 ?_
  refine r_iast (123 : Int) rfl X hw (sh_r55 _ hj3) dX3_remember_27 hf (fun hf H locs hw => ?_)
  refine r_mem hf hw (fun σ6 hw hf => ?_)
  refine lv_aload_n hx hb dX3_remember_28 rfl (lv_at hl 1 rfl) ?_
  refine r_getr 76 X hw sh_54 fd_3_1 rfl rfl lf_X3_18 dX3_remember_29 ?_
  refine lv_iconst (v := mI 0) hx hb dX3_remember_32 rfl ?_
  refine lv_aload_n hx hb dX3_remember_33 rfl (lv_at hl 0 rfl) ?_
  refine lv_bipush (v := mI 63) hx hb dX3_remember_34 (by decide) ?_
  refine lv_bipush (v := mI 60) hx hb dX3_remember_36 (by decide) ?_
  refine r_copy (rest := []) (60 : Int) (123 : Int) rfl rfl X hw sh_76 (sh_r55 _ hj3) lm_X3_48 ka_nat ka_stat ka_ini hl.1 (by decide) (Nat.le_of_ble_eq_true rfl) dX3_remember_38 hf (fun hf H locs hw => ?_)
  refine r_mem hf hw (fun σ7 hw hf => ?_)
  refine lv_aload_n hx hb dX3_remember_41 rfl (lv_at hl 1 rfl) ?_
  refine lv_aload_n hx hb dX3_remember_42 rfl (lv_at hl 1 rfl) ?_
  refine r_geti X hw sh_54 fd_3_3 rfl lf_X3_29 dX3_remember_43 ?_
  refine lv_iconst (v := mI 1) hx hb dX3_remember_46 rfl ?_
  refine r_iadd X dX3_remember_47 ?_
  refine lv_bipush (v := mI 20) hx hb dX3_remember_48 (by decide) ?_
  refine r_irem X dX3_remember_50 hf (fun hf => ?_)
  refine r_puti X hw sh_54 fd_3_3 fp_3_3 rfl rfl lf_X3_29 dX3_remember_51 (fun H locs hw => ?_)
  refine r_mem hf hw (fun σ8 hw hf => ?_)
  refine lv_aload_n hx hb dX3_remember_54 rfl (lv_at hl 1 rfl) ?_
  refine lv_bipush (v := mI 20) hx hb dX3_remember_55 (by decide) ?_
  refine lv_aload_n hx hb dX3_remember_57 rfl (lv_at hl 1 rfl) ?_
  refine r_geti X hw sh_54 fd_3_4 rfl lf_X3_32 dX3_remember_58 ?_
  refine lv_iconst (v := mI 1) hx hb dX3_remember_61 rfl ?_
  refine r_iadd X dX3_remember_62 ?_
  refine r_csi (rest := [.ref (ad 54)]) [.int (mI 20), .int (mI ((σ8 54 4) + 1))] X hw (fun ra σa h => c_J9_min_7cf53 l D cy ad bs F 20 ((σ8 54 4) + 1) σ8 ra σa  h) km_J9_min_7cf53 ks_J9_min_7cf53 lm_X3_35 dX3_remember_63 hl.1 rfl rfl (Nat.le_of_ble_eq_true rfl) ⟨by decide, by decide⟩ ⟨Nat.zero_le _, Nat.zero_le _⟩ hf (fun r9 σ10 _ hf H locs hw => ?_)
  refine r_puti X hw sh_54 fd_3_4 fp_3_4 rfl rfl lf_X3_32 dX3_remember_66 (fun H locs hw => ?_)
  refine r_mem hf hw (fun σ11 hw hf => ?_)
  exact r_vret X hw dX3_remember_69 hf
def g_X10_loadFrom_b35 (F : Nat) (o : Nat) (a1 n1 : Nat)  (σ : mMem) : mRs := some (0, σ)
set_option maxRecDepth 100000 in
set_option maxHeartbeats 4000000 in
theorem w_X10_loadFrom_b35 {p : Program} {l : Launch} {e : Env} {s : State} {m : MethodId} {args : Array Value} {below : List Frame} {meth : Method} {c : Code} {D : va_G} {cy : Nat → ClassId} {ad : Nat → Nat} {bs : Nat} {F : Nat} {o : Nat} {a1 n1 : Nat} (X : mCx p m c cX10_loadFrom 2 s args RX10 meth D cy none) (ho : mWorld o) (ha1 : mSh a1 = (13, n1)) {r : Int} {σ' : mMem}    {σ : mMem} {H : Heap} {locs : List Loc} {ls : Array Slot} (hw : mWd D cy ad bs true mN σ s.heap H locs) (hl : lv_has ls 2 [(0, .ref (ad o)), (1, .ref (ad a1))]) (hf : g_X10_loadFrom_b35 F o a1 n1  σ = some (r, σ')) : mGv p l e 1 s m args below meth c D cy ad bs σ' H locs (F0 m 35 ls []) := by
  obtain ⟨⟨hx, hb, -, -, -⟩, -⟩ := id X
  unfold g_X10_loadFrom_b35 at hf
  exact r_vret X hw dX10_loadFrom_35 hf
def g_X10_loadFrom (F : Nat) (o : Nat) (a1 n1 : Nat) (σ : mMem) : mRs := if mw (n1 : Int) < mw 62 then (g_X10_loadFrom_b35 F o a1 n1 σ) else (if 0 ≤ mw 0 ∧ 0 ≤ mw 0 ∧ 0 ≤ mw 60 ∧ mw 0 + mw 60 ≤ (n1 : Int) ∧ mw 0 + mw 60 ≤ (60 : Int) then mlm (mupo σ (o + 1) (mcpy (σ a1) (σ (o + 1)) (mw 0).toNat (mw 0).toNat (mw 60).toNat)) (fun σ1 => if 0 ≤ mw 60 ∧ mw 60 < (n1 : Int) then mlm (mup σ1 o 4 (σ1 a1 (mw 60).toNat)) (fun σ2 => if 0 ≤ mw 61 ∧ mw 61 < (n1 : Int) then mlm (mup σ2 o 5 (σ2 a1 (mw 61).toNat)) (fun σ3 => g_X10_loadFrom_b35 F o a1 n1 σ3) else none) else none) else none)
set_option maxRecDepth 100000 in
set_option maxHeartbeats 4000000 in
theorem c_X10_loadFrom (l : Launch) (D : va_G) (cy : Nat → ClassId) (ad : Nat → Nat) (bs : Nat) (F : Nat) (o : Nat) (a1 n1 : Nat)  (σ : mMem) (r : Int) (σ' : mMem) (ho : mWorld o) (ha1 : mSh a1 = (13, n1)) (hf : g_X10_loadFrom F o a1 n1 σ = some (r, σ')) : mCv l D cy ad bs yX10_loadFrom cX10_loadFrom 2 none 1 [.ref (ad o), .ref (ad a1)] σ σ' := by
  refine mCv.of (lv := [(0, .ref (ad o)), (1, .ref (ad a1))]) km_X10_loadFrom.2.2.2.2.2 (Nat.le_of_ble_eq_true rfl) rfl (fun p e s m args below meth c H locs ls X hw hl => ?_)
  obtain ⟨⟨hx, hb, -, -, -⟩, -⟩ := id X
  unfold g_X10_loadFrom at hf
  refine lv_aload_n hx hb dX10_loadFrom_0 rfl (lv_at hl 1 rfl) ?_
  refine r_ileni (n1 : Int) rfl X hw ha1 dX10_loadFrom_1 ?_
  refine lv_bipush (v := mI 62) hx hb dX10_loadFrom_2 (by decide) ?_
  refine r_icmp_lt (tgt := 35) X dX10_loadFrom_4 (by decide) hf (fun hc hf => ?_) (fun hc hf => ?_)
  · exact w_X10_loadFrom_b35 X ho ha1 hw (lv_sub hl [0, 1] rfl) hf
  · refine lv_aload_n hx hb dX10_loadFrom_7 rfl (lv_at hl 1 rfl) ?_
    refine lv_iconst (v := mI 0) hx hb dX10_loadFrom_8 rfl ?_
    refine lv_aload_n hx hb dX10_loadFrom_9 rfl (lv_at hl 0 rfl) ?_
    refine r_getr (o + 1) X hw ho.1 fd_10_0 rfl rfl lf_X10_13 dX10_loadFrom_10 ?_
    refine lv_iconst (v := mI 0) hx hb dX10_loadFrom_13 rfl ?_
    refine lv_bipush (v := mI 60) hx hb dX10_loadFrom_14 (by decide) ?_
    refine r_copy (rest := []) (n1 : Int) (60 : Int) rfl rfl X hw ha1 ho.2.1 lm_X10_49 ka_nat ka_stat ka_ini hl.1 (by decide) (Nat.le_of_ble_eq_true rfl) dX10_loadFrom_16 hf (fun hf H locs hw => ?_)
    refine r_mem hf hw (fun σ1 hw hf => ?_)
    refine lv_aload_n hx hb dX10_loadFrom_19 rfl (lv_at hl 0 rfl) ?_
    refine lv_aload_n hx hb dX10_loadFrom_20 rfl (lv_at hl 1 rfl) ?_
    refine lv_bipush (v := mI 60) hx hb dX10_loadFrom_21 (by decide) ?_
    refine r_iald (n1 : Int) rfl X hw ha1 dX10_loadFrom_23 hf (fun hf => ?_)
    refine r_puti X hw ho.1 fd_10_4 fp_10_4 rfl rfl lf_X10_32 dX10_loadFrom_24 (fun H locs hw => ?_)
    refine r_mem hf hw (fun σ2 hw hf => ?_)
    refine lv_aload_n hx hb dX10_loadFrom_27 rfl (lv_at hl 0 rfl) ?_
    refine lv_aload_n hx hb dX10_loadFrom_28 rfl (lv_at hl 1 rfl) ?_
    refine lv_bipush (v := mI 61) hx hb dX10_loadFrom_29 (by decide) ?_
    refine r_iald (n1 : Int) rfl X hw ha1 dX10_loadFrom_31 hf (fun hf => ?_)
    refine r_puti X hw ho.1 fd_10_5 fp_10_5 rfl rfl lf_X10_36 dX10_loadFrom_32 (fun H locs hw => ?_)
    refine r_mem hf hw (fun σ3 hw hf => ?_)
    exact w_X10_loadFrom_b35 X ho ha1 hw (lv_sub hl [0, 1] rfl) hf
def g_X3_restore (F : Nat) (w1 : Nat) (σ : mMem) : mRs := if 0 < mw (σ 54 4) then (mob (g_J9_floorMod_7cf53 F ((σ 54 3) - 1) 20 σ) (fun r1 σ2 => mlm (mup σ2 54 3 r1) (fun σ3 => if 0 ≤ mw (σ3 54 3) ∧ mw (σ3 54 3) < (20 : Int) then mob (g_X10_loadFrom F w1 (55 + 1 + (mw (σ3 54 3)).toNat) 123 σ3) (fun r5 σ6 => if 0 ≤ mw 62 ∧ mw 62 < (123 : Int) then mlm (mup σ6 54 2 (σ6 (55 + 1 + (mw (σ3 54 3)).toNat) (mw 62).toNat)) (fun σ7 => if 0 ≤ mw 63 ∧ 0 ≤ mw 0 ∧ 0 ≤ mw 60 ∧ mw 63 + mw 60 ≤ (123 : Int) ∧ mw 0 + mw 60 ≤ (60 : Int) then mlm (mupo σ7 76 (mcpy (σ7 (55 + 1 + (mw (σ3 54 3)).toNat)) (σ7 76) (mw 63).toNat (mw 0).toNat (mw 60).toNat)) (fun σ8 => mlm (mup σ8 54 4 ((σ8 54 4) - 1)) (fun σ9 => some (0, σ9))) else none) else none) else none))) else (some (0, σ))
set_option maxRecDepth 100000 in
set_option maxHeartbeats 4000000 in
theorem c_X3_restore (l : Launch) (D : va_G) (cy : Nat → ClassId) (ad : Nat → Nat) (bs : Nat) (F : Nat) (w1 : Nat)  (σ : mMem) (r : Int) (σ' : mMem) (hw1 : mWorld w1) (hf : g_X3_restore F w1 σ = some (r, σ')) : mCv l D cy ad bs yX3_restore cX3_restore 3 none 2 [.ref (ad 54), .ref (ad w1)] σ σ' := by
  refine mCv.of (lv := [(0, .ref (ad 54)), (1, .ref (ad w1))]) km_X3_restore.2.2.2.2.2 (Nat.le_of_ble_eq_true rfl) rfl (fun p e s m args below meth c H locs ls X hw hl => ?_)
  obtain ⟨⟨hx, hb, -, -, -⟩, -⟩ := id X
  unfold g_X3_restore at hf
  refine lv_aload_n hx hb dX3_restore_0 rfl (lv_at hl 0 rfl) ?_
  refine r_geti X hw sh_54 fd_3_4 rfl lf_X3_32 dX3_restore_1 ?_
  refine r_if_gt (tgt := 8) X dX3_restore_4 (by decide) hf (fun hc hf => ?_) (fun hc hf => ?_)
  · refine lv_aload_n hx hb dX3_restore_8 rfl (lv_at hl 0 rfl) ?_
    refine lv_aload_n hx hb dX3_restore_9 rfl (lv_at hl 0 rfl) ?_
    refine r_geti X hw sh_54 fd_3_3 rfl lf_X3_29 dX3_restore_10 ?_
    refine lv_iconst (v := mI 1) hx hb dX3_restore_13 rfl ?_
    refine r_isub X dX3_restore_14 ?_
    refine lv_bipush (v := mI 20) hx hb dX3_restore_15 (by decide) ?_
    refine r_csi (rest := [.ref (ad 54)]) [.int (mI ((σ 54 3) - 1)), .int (mI 20)] X hw (fun ra σa h => c_J9_floorMod_7cf53 l D cy ad bs F ((σ 54 3) - 1) 20 σ ra σa  h) km_J9_floorMod_7cf53 ks_J9_floorMod_7cf53 lm_X3_41 dX3_restore_17 hl.1 rfl rfl (Nat.le_of_ble_eq_true rfl) ⟨by decide, by decide⟩ ⟨Nat.zero_le _, Nat.zero_le _⟩ hf (fun r1 σ2 _ hf H locs hw => ?_)
    refine r_puti X hw sh_54 fd_3_3 fp_3_3 rfl rfl lf_X3_29 dX3_restore_20 (fun H locs hw => ?_)
    refine r_mem hf hw (fun σ3 hw hf => ?_)
    refine lv_aload_n hx hb dX3_restore_23 rfl (lv_at hl 0 rfl) ?_
    refine r_getr 55 X hw sh_54 fd_3_0 rfl rfl lf_X3_15 dX3_restore_24 ?_
    refine lv_aload_n hx hb dX3_restore_27 rfl (lv_at hl 0 rfl) ?_
    refine r_geti X hw sh_54 fd_3_3 rfl lf_X3_29 dX3_restore_28 ?_
    refine r_aald (20 : Int) rfl X hw sh_55 dX3_restore_31 hf (fun hj4 hf => ?_)
    refine lv_astore_n (lv' := [(2, .ref (ad (55 + 1 + (mw (σ3 54 3)).toNat))), (0, .ref (ad 54)), (1, .ref (ad w1))]) hx hb dX3_restore_32 rfl hl (by decide) rfl (fun ls hl => ?_)
    refine lv_aload_n hx hb dX3_restore_33 rfl (lv_at hl 2 rfl) ?_
    refine lv_aload_n hx hb dX3_restore_34 rfl (lv_at hl 0 rfl) ?_
    refine r_cvv (rest := []) [.ref (ad (55 + 1 + (mw (σ3 54 3)).toNat))] X hw (fun ra σa h => c_X10_loadFrom l D cy ad bs F w1 (55 + 1 + (mw (σ3 54 3)).toNat) 123 σ3 ra σa hw1 (sh_r55 _ hj4) h) hw1.1 rfl (by decide) rfl km_X10_loadFrom kv_X10_loadFrom lm_X3_54 dX3_restore_35 hl.1 rfl rfl (Nat.le_of_ble_eq_true rfl) ⟨by decide, by decide⟩ ⟨Nat.zero_le _, Nat.zero_le _⟩ hf (fun r5 σ6 _ hf H locs hw => ?_)
    refine lv_aload_n hx hb dX3_restore_38 rfl (lv_at hl 1 rfl) ?_
    refine lv_aload_n hx hb dX3_restore_39 rfl (lv_at hl 0 rfl) ?_
    refine lv_bipush (v := mI 62) hx hb dX3_restore_40 (by decide) ?_
    refine r_iald (123 : Int) rfl X hw (sh_r55 _ hj4) dX3_restore_42 hf (fun hf => ?_)
    refine r_puti X hw sh_54 fd_3_2 fp_3_2 rfl rfl lf_X3_25 dX3_restore_43 (fun H locs hw => ?_)
    refine r_mem hf hw (fun σ7 hw hf => ?_)
    refine lv_aload_n hx hb dX3_restore_46 rfl (lv_at hl 0 rfl) ?_
    refine lv_bipush (v := mI 63) hx hb dX3_restore_47 (by decide) ?_
    refine lv_aload_n hx hb dX3_restore_49 rfl (lv_at hl 1 rfl) ?_
    refine r_getr 76 X hw sh_54 fd_3_1 rfl rfl lf_X3_18 dX3_restore_50 ?_
    refine lv_iconst (v := mI 0) hx hb dX3_restore_53 rfl ?_
    refine lv_bipush (v := mI 60) hx hb dX3_restore_54 (by decide) ?_
    refine r_copy (rest := []) (123 : Int) (60 : Int) rfl rfl X hw (sh_r55 _ hj4) sh_76 lm_X3_48 ka_nat ka_stat ka_ini hl.1 (by decide) (Nat.le_of_ble_eq_true rfl) dX3_restore_56 hf (fun hf H locs hw => ?_)
    refine r_mem hf hw (fun σ8 hw hf => ?_)
    refine lv_aload_n hx hb dX3_restore_59 rfl (lv_at hl 1 rfl) ?_
    refine lv_dup hx hb dX3_restore_60 rfl ?_
    refine r_geti X hw sh_54 fd_3_4 rfl lf_X3_32 dX3_restore_61 ?_
    refine lv_iconst (v := mI 1) hx hb dX3_restore_64 rfl ?_
    refine r_isub X dX3_restore_65 ?_
    refine r_puti X hw sh_54 fd_3_4 fp_3_4 rfl rfl lf_X3_32 dX3_restore_66 (fun H locs hw => ?_)
    refine r_mem hf hw (fun σ9 hw hf => ?_)
    exact r_vret X hw dX3_restore_69 hf
  · exact r_vret X hw dX3_restore_7 hf
def g_X3_keepStep_b97 (F : Nat) (w1 : Nat)  (σ : mMem) : mRs := some (0, σ)
set_option maxRecDepth 100000 in
set_option maxHeartbeats 4000000 in
theorem w_X3_keepStep_b97 {p : Program} {l : Launch} {e : Env} {s : State} {m : MethodId} {args : Array Value} {below : List Frame} {meth : Method} {c : Code} {D : va_G} {cy : Nat → ClassId} {ad : Nat → Nat} {bs : Nat} {F : Nat} {w1 : Nat} (X : mCx p m c cX3_keepStep 5 s args RX3 meth D cy none) (hw1 : mWorld w1) {r : Int} {σ' : mMem}    {σ : mMem} {H : Heap} {locs : List Loc} {ls : Array Slot} (hw : mWd D cy ad bs true mN σ s.heap H locs) (hl : lv_has ls 5 [(0, .ref (ad 54)), (1, .ref (ad w1))]) (hf : g_X3_keepStep_b97 F w1  σ = some (r, σ')) : mGv p l e 2 s m args below meth c D cy ad bs σ' H locs (F0 m 97 ls []) := by
  obtain ⟨⟨hx, hb, -, -, -⟩, -⟩ := id X
  unfold g_X3_keepStep_b97 at hf
  exact r_vret X hw dX3_keepStep_97 hf
def g_X3_keepStep_b91 (F : Nat) (w1 : Nat) (k2 : Int → mMem → mRs) (x2 : Int) (σ : mMem) : mRs := k2 (x2 + 1) σ
set_option maxRecDepth 100000 in
set_option maxHeartbeats 4000000 in
theorem w_X3_keepStep_b91 {p : Program} {l : Launch} {e : Env} {s : State} {m : MethodId} {args : Array Value} {below : List Frame} {meth : Method} {c : Code} {D : va_G} {cy : Nat → ClassId} {ad : Nat → Nat} {bs : Nat} {F : Nat} {w1 : Nat} (X : mCx p m c cX3_keepStep 5 s args RX3 meth D cy none) (hw1 : mWorld w1) {r : Int} {σ' : mMem} {k2 : Int → mMem → mRs} (hk2 : ∀ (x2 : Int) (σ : mMem) (H : Heap) (locs : List Loc) (ls : Array Slot), mWd D cy ad bs true mN σ s.heap H locs → lv_has ls 5 [(0, .ref (ad 54)), (1, .ref (ad w1)), (2, .int (mI x2))] → k2 x2 σ = some (r, σ') → mGv p l e 2 s m args below meth c D cy ad bs σ' H locs (F0 m 2 ls [])) {x2 : Int} {σ : mMem} {H : Heap} {locs : List Loc} {ls : Array Slot} (hw : mWd D cy ad bs true mN σ s.heap H locs) (hl : lv_has ls 5 [(0, .ref (ad 54)), (1, .ref (ad w1)), (2, .int (mI x2))]) (hf : g_X3_keepStep_b91 F w1 k2 x2 σ = some (r, σ')) : mGv p l e 2 s m args below meth c D cy ad bs σ' H locs (F0 m 91 ls []) := by
  obtain ⟨⟨hx, hb, -, -, -⟩, -⟩ := id X
  unfold g_X3_keepStep_b91 at hf
  refine lv_iinc (v := mI (x2 + 1)) (lv' := [(2, .int (mI (x2 + 1))), (0, .ref (ad 54)), (1, .ref (ad w1))]) hx hb dX3_keepStep_91 hl (k := 2) rfl (mI_add _ _) (by decide) rfl (fun ls hl => ?_)
  refine lv_goto (tgt := 2) hx hb dX3_keepStep_94 (by decide) ?_
  exact hk2 (x2 + 1) σ _ _ _ hw (lv_sub hl [1, 2, 0] rfl) hf
def g_X3_keepStep_h2 (F : Nat) (w1 : Nat)  : Nat → Int → mMem → mRs
  | 0, _, _ => none
  | n + 1, x2, σ => if σ w1 3 = 3 ∨ σ w1 3 = 8 then if mw (σ (σ w1 3).toNat 11) ≤ mw x2 then (g_X3_keepStep_b97 F w1 σ) else (if mw 6 ≤ mw x2 then (g_X3_keepStep_b97 F w1 σ) else (if 0 ≤ mw x2 ∧ mw x2 < (6 : Int) then if mw (σ (w1 + 2) (mw x2).toNat) = 0 then (g_X3_keepStep_b91 F w1 (g_X3_keepStep_h2 F w1 n) x2 σ) else (mob (g_X10_of F w1 x2 1 σ) (fun r102 σ103 => mob (g_X10_of F w1 x2 0 σ103) (fun r104 σ105 => mlet (mor (mshl r102 4) r104) (fun y106 => mlet (mor (mor (mshl ((σ105 w1 4) - 1) 11) (mshl x2 8)) y106) (fun y107 => mob (g_J9_floorMod_7cf53 F (σ105 54 2) 60 σ105) (fun r108 σ109 => if 0 ≤ mw r108 ∧ mw r108 < (60 : Int) then mlm (mup σ109 76 (mw r108).toNat y107) (fun σ110 => mlm (mup σ110 54 2 ((σ110 54 2) + 1)) (fun σ111 => g_X3_keepStep_b91 F w1 (g_X3_keepStep_h2 F w1 n) x2 σ111)) else none)))))) else none)) else none
set_option maxRecDepth 100000 in
set_option maxHeartbeats 4000000 in
theorem w_X3_keepStep_h2 {p : Program} {l : Launch} {e : Env} {s : State} {m : MethodId} {args : Array Value} {below : List Frame} {meth : Method} {c : Code} {D : va_G} {cy : Nat → ClassId} {ad : Nat → Nat} {bs : Nat} {F : Nat} {w1 : Nat} (X : mCx p m c cX3_keepStep 5 s args RX3 meth D cy none) (hw1 : mWorld w1) {r : Int} {σ' : mMem}   (n : Nat) : ∀ {x2 : Int} {σ : mMem} {H : Heap} {locs : List Loc} {ls : Array Slot} (_ : mWd D cy ad bs true mN σ s.heap H locs) (_ : lv_has ls 5 [(0, .ref (ad 54)), (1, .ref (ad w1)), (2, .int (mI x2))]) (_ : g_X3_keepStep_h2 F w1 n x2 σ = some (r, σ')), mGv p l e 2 s m args below meth c D cy ad bs σ' H locs (F0 m 2 ls []) := by
  obtain ⟨⟨hx, hb, -, -, -⟩, -⟩ := id X
  induction n with
  | zero =>
    intro x2 σ H locs ls hw hl hf
    unfold g_X3_keepStep_h2 at hf
    cases hf
  | succ n ih =>
    have hk2 : ∀ (x2 : Int) (σ : mMem) (H : Heap) (locs : List Loc) (ls : Array Slot), mWd D cy ad bs true mN σ s.heap H locs → lv_has ls 5 [(0, .ref (ad 54)), (1, .ref (ad w1)), (2, .int (mI x2))] → g_X3_keepStep_h2 F w1 n x2 σ = some (r, σ') → mGv p l e 2 s m args below meth c D cy ad bs σ' H locs (F0 m 2 ls []) := fun x2 σ H locs ls hw hl hf => ih hw hl hf
    intro x2 σ H locs ls hw hl hf
    unfold g_X3_keepStep_h2 at hf
    refine lv_iload_n hx hb dX3_keepStep_2 rfl (lv_at hl 2 rfl) ?_
    refine lv_aload_n hx hb dX3_keepStep_3 rfl (lv_at hl 1 rfl) ?_
    refine r_getp X hw hw1.1 fd_10_3 rfl lf_X3_57 dX3_keepStep_4 hf (fun hg101 hf => ?_)
    refine r_geti X hw (mPlan_z hg101).1 fd_5_11 rfl lf_X3_61 dX3_keepStep_7 ?_
    refine r_icmp_ge (tgt := 97) X dX3_keepStep_10 (by decide) hf (fun hc hf => ?_) (fun hc hf => ?_)
    · exact w_X3_keepStep_b97 X hw1 hw (lv_sub hl [0, 1] rfl) hf
    · refine lv_iload_n hx hb dX3_keepStep_13 rfl (lv_at hl 2 rfl) ?_
      refine lv_aload_n hx hb dX3_keepStep_14 rfl (lv_at hl 1 rfl) ?_
      refine r_getr (w1 + 2) X hw hw1.1 fd_10_1 rfl rfl lf_X3_66 dX3_keepStep_15 ?_
      refine r_zleni (6 : Int) rfl X hw hw1.2.2.1 dX3_keepStep_18 ?_
      refine r_icmp_ge (tgt := 97) X dX3_keepStep_19 (by decide) hf (fun hc hf => ?_) (fun hc hf => ?_)
      · exact w_X3_keepStep_b97 X hw1 hw (lv_sub hl [0, 1] rfl) hf
      · refine lv_aload_n hx hb dX3_keepStep_22 rfl (lv_at hl 1 rfl) ?_
        refine r_getr (w1 + 2) X hw hw1.1 fd_10_1 rfl rfl lf_X3_66 dX3_keepStep_23 ?_
        refine lv_iload_n hx hb dX3_keepStep_26 rfl (lv_at hl 2 rfl) ?_
        refine r_zald (6 : Int) rfl X hw hw1.2.2.1 dX3_keepStep_27 hf (fun hf => ?_)
        refine r_if_eq (tgt := 91) X dX3_keepStep_28 (by decide) hf (fun hc hf => ?_) (fun hc hf => ?_)
        · exact w_X3_keepStep_b91 X hw1 hk2 hw (lv_sub hl [0, 1, 2] rfl) hf
        · refine lv_aload_n hx hb dX3_keepStep_31 rfl (lv_at hl 1 rfl) ?_
          refine lv_iload_n hx hb dX3_keepStep_32 rfl (lv_at hl 2 rfl) ?_
          refine lv_iconst (v := mI 1) hx hb dX3_keepStep_33 rfl ?_
          refine r_cvi (rest := []) [.int (mI x2), .int (mI 1)] X hw (fun ra σa h => c_X10_of l D cy ad bs F w1 x2 1 σ ra σa hw1 h) hw1.1 rfl (by decide) rfl km_X10_of kv_X10_of lm_X3_70 dX3_keepStep_34 hl.1 rfl rfl (Nat.le_of_ble_eq_true rfl) ⟨by decide, by decide⟩ ⟨Nat.zero_le _, Nat.zero_le _⟩ hf (fun r102 σ103 _ hf H locs hw => ?_)
          refine lv_iconst (v := mI 4) hx hb dX3_keepStep_37 rfl ?_
          refine r_ishl X dX3_keepStep_38 ?_
          refine lv_aload_n hx hb dX3_keepStep_39 rfl (lv_at hl 1 rfl) ?_
          refine lv_iload_n hx hb dX3_keepStep_40 rfl (lv_at hl 2 rfl) ?_
          refine lv_iconst (v := mI 0) hx hb dX3_keepStep_41 rfl ?_
          refine r_cvi (rest := [.int (mI (mshl r102 4))]) [.int (mI x2), .int (mI 0)] X hw (fun ra σa h => c_X10_of l D cy ad bs F w1 x2 0 σ103 ra σa hw1 h) hw1.1 rfl (by decide) rfl km_X10_of kv_X10_of lm_X3_70 dX3_keepStep_42 hl.1 rfl rfl (Nat.le_of_ble_eq_true rfl) ⟨by decide, by decide⟩ ⟨Nat.zero_le _, Nat.zero_le _⟩ hf (fun r104 σ105 _ hf H locs hw => ?_)
          refine r_ior X dX3_keepStep_45 ?_
          refine r_leti hf (fun y106 hf => ?_)
          refine lv_istore_n (lv' := [(3, .int (mI y106)), (0, .ref (ad 54)), (1, .ref (ad w1)), (2, .int (mI x2))]) hx hb dX3_keepStep_46 rfl hl (by decide) rfl (fun ls hl => ?_)
          refine lv_aload_n hx hb dX3_keepStep_47 rfl (lv_at hl 2 rfl) ?_
          refine r_geti X hw hw1.1 fd_10_4 rfl lf_X3_73 dX3_keepStep_48 ?_
          refine lv_iconst (v := mI 1) hx hb dX3_keepStep_51 rfl ?_
          refine r_isub X dX3_keepStep_52 ?_
          refine lv_bipush (v := mI 11) hx hb dX3_keepStep_53 (by decide) ?_
          refine r_ishl X dX3_keepStep_55 ?_
          refine lv_iload_n hx hb dX3_keepStep_56 rfl (lv_at hl 3 rfl) ?_
          refine lv_bipush (v := mI 8) hx hb dX3_keepStep_57 (by decide) ?_
          refine r_ishl X dX3_keepStep_59 ?_
          refine r_ior X dX3_keepStep_60 ?_
          refine lv_iload_n hx hb dX3_keepStep_61 rfl (lv_at hl 0 rfl) ?_
          refine r_ior X dX3_keepStep_62 ?_
          refine r_leti hf (fun y107 hf => ?_)
          refine lv_istore (lv' := [(4, .int (mI y107)), (3, .int (mI y106)), (0, .ref (ad 54)), (1, .ref (ad w1)), (2, .int (mI x2))]) hx hb dX3_keepStep_63 hl (by decide) rfl (fun ls hl => ?_)
          refine lv_aload_n hx hb dX3_keepStep_65 rfl (lv_at hl 2 rfl) ?_
          refine r_getr 76 X hw sh_54 fd_3_1 rfl rfl lf_X3_18 dX3_keepStep_66 ?_
          refine lv_aload_n hx hb dX3_keepStep_69 rfl (lv_at hl 2 rfl) ?_
          refine r_geti X hw sh_54 fd_3_2 rfl lf_X3_25 dX3_keepStep_70 ?_
          refine lv_bipush (v := mI 60) hx hb dX3_keepStep_73 (by decide) ?_
          refine r_csi (rest := [.ref (ad 76)]) [.int (mI (σ105 54 2)), .int (mI 60)] X hw (fun ra σa h => c_J9_floorMod_7cf53 l D cy ad bs F (σ105 54 2) 60 σ105 ra σa  h) km_J9_floorMod_7cf53 ks_J9_floorMod_7cf53 lm_X3_41 dX3_keepStep_75 hl.1 rfl rfl (Nat.le_of_ble_eq_true rfl) ⟨by decide, by decide⟩ ⟨Nat.zero_le _, Nat.zero_le _⟩ hf (fun r108 σ109 _ hf H locs hw => ?_)
          refine lv_iload hx hb dX3_keepStep_78 (lv_at hl 0 rfl) ?_
          refine r_iast (60 : Int) rfl X hw sh_76 dX3_keepStep_80 hf (fun hf H locs hw => ?_)
          refine r_mem hf hw (fun σ110 hw hf => ?_)
          refine lv_aload_n hx hb dX3_keepStep_81 rfl (lv_at hl 2 rfl) ?_
          refine lv_dup hx hb dX3_keepStep_82 rfl ?_
          refine r_geti X hw sh_54 fd_3_2 rfl lf_X3_25 dX3_keepStep_83 ?_
          refine lv_iconst (v := mI 1) hx hb dX3_keepStep_86 rfl ?_
          refine r_iadd X dX3_keepStep_87 ?_
          refine r_puti X hw sh_54 fd_3_2 fp_3_2 rfl rfl lf_X3_25 dX3_keepStep_88 (fun H locs hw => ?_)
          refine r_mem hf hw (fun σ111 hw hf => ?_)
          exact w_X3_keepStep_b91 X hw1 hk2 hw (lv_sub hl [2, 3, 4] rfl) hf
def g_X3_keepStep (F : Nat) (w1 : Nat) (σ : mMem) : mRs := g_X3_keepStep_h2 F w1 F 0 σ
set_option maxRecDepth 100000 in
set_option maxHeartbeats 4000000 in
theorem c_X3_keepStep (l : Launch) (D : va_G) (cy : Nat → ClassId) (ad : Nat → Nat) (bs : Nat) (F : Nat) (w1 : Nat)  (σ : mMem) (r : Int) (σ' : mMem) (hw1 : mWorld w1) (hf : g_X3_keepStep F w1 σ = some (r, σ')) : mCv l D cy ad bs yX3_keepStep cX3_keepStep 5 none 2 [.ref (ad 54), .ref (ad w1)] σ σ' := by
  refine mCv.of (lv := [(0, .ref (ad 54)), (1, .ref (ad w1))]) km_X3_keepStep.2.2.2.2.2 (Nat.le_of_ble_eq_true rfl) rfl (fun p e s m args below meth c H locs ls X hw hl => ?_)
  obtain ⟨⟨hx, hb, -, -, -⟩, -⟩ := id X
  unfold g_X3_keepStep at hf
  refine lv_iconst (v := mI 0) hx hb dX3_keepStep_0 rfl ?_
  refine lv_istore_n (lv' := [(2, .int (mI 0)), (0, .ref (ad 54)), (1, .ref (ad w1))]) hx hb dX3_keepStep_1 rfl hl (by decide) rfl (fun ls hl => ?_)
  exact w_X3_keepStep_h2 X hw1 _ hw (lv_sub hl [1, 2, 0] rfl) hf
def g_X3_keptPart_b12 (F : Nat)  (σ : mMem) : mRs := some ((-1), σ)
set_option maxRecDepth 100000 in
set_option maxHeartbeats 4000000 in
theorem w_X3_keptPart_b12 {p : Program} {l : Launch} {e : Env} {s : State} {m : MethodId} {args : Array Value} {below : List Frame} {meth : Method} {c : Code} {D : va_G} {cy : Nat → ClassId} {ad : Nat → Nat} {bs : Nat} {F : Nat}  (X : mCx p m c cX3_keptPart 4 s args RX3 meth D cy (some .int))  {r : Int} {σ' : mMem}    {σ : mMem} {H : Heap} {locs : List Loc} {ls : Array Slot} (hw : mWd D cy ad bs true mN σ s.heap H locs) (hl : lv_has ls 4 [(0, .ref (ad 54))]) (hf : g_X3_keptPart_b12 F  σ = some (r, σ')) : mGi p l e 3 s m args below meth c D cy ad bs r σ' H locs (F0 m 12 ls []) := by
  obtain ⟨⟨hx, hb, -, -, -⟩, -⟩ := id X
  unfold g_X3_keptPart_b12 at hf
  refine lv_iconst (v := mI (-1)) hx hb dX3_keptPart_12 rfl ?_
  exact r_iret X hw dX3_keptPart_13 hf
def g_X3_keptPart (F : Nat) (x1 x2 : Int) (σ : mMem) : mRs := if mw x1 < 0 then (g_X3_keptPart_b12 F σ) else (mob (g_X3_told F σ) (fun r1 σ2 => if mw x1 < mw r1 then (mob (g_X3_told F σ2) (fun r3 σ4 => mob (g_J9_floorMod_7cf53 F (((σ2 54 2) - r3) + x1) 60 σ4) (fun r5 σ6 => if 0 ≤ mw r5 ∧ mw r5 < (60 : Int) then mlet (σ6 76 (mw r5).toNat) (fun y7 => if mw x2 = 0 then (some (mshr y7 11, σ6)) else (if mw x2 = 1 then (some (mand (mshr y7 8) 7, σ6)) else (if mw x2 = 2 then (some (mand y7 15, σ6)) else (if mw x2 = 3 then (some (mand (mshr y7 4) 15, σ6)) else (some ((-1), σ6)))))) else none))) else (g_X3_keptPart_b12 F σ2)))
set_option maxRecDepth 100000 in
set_option maxHeartbeats 4000000 in
theorem c_X3_keptPart (l : Launch) (D : va_G) (cy : Nat → ClassId) (ad : Nat → Nat) (bs : Nat) (F : Nat)  (x1 x2 : Int) (σ : mMem) (r : Int) (σ' : mMem)  (hf : g_X3_keptPart F x1 x2 σ = some (r, σ')) : mCi l D cy ad bs yX3_keptPart cX3_keptPart 4 (some .int) 3 [.ref (ad 54), .int (mI x1), .int (mI x2)] σ r σ' := by
  refine mCi.of (lv := [(0, .ref (ad 54)), (1, .int (mI x1)), (2, .int (mI x2))]) km_X3_keptPart.2.2.2.2.2 (Nat.le_of_ble_eq_true rfl) rfl (fun p e s m args below meth c H locs ls X hw hl => ?_)
  obtain ⟨⟨hx, hb, -, -, -⟩, -⟩ := id X
  unfold g_X3_keptPart at hf
  refine lv_iload_n hx hb dX3_keptPart_0 rfl (lv_at hl 1 rfl) ?_
  refine r_if_lt (tgt := 12) X dX3_keptPart_1 (by decide) hf (fun hc hf => ?_) (fun hc hf => ?_)
  · exact w_X3_keptPart_b12 X hw (lv_sub hl [0] rfl) hf
  · refine lv_iload_n hx hb dX3_keptPart_4 rfl (lv_at hl 1 rfl) ?_
    refine lv_aload_n hx hb dX3_keptPart_5 rfl (lv_at hl 0 rfl) ?_
    refine r_cvi (rest := [.int (mI x1)]) [] X hw (fun ra σa h => c_X3_told l D cy ad bs F σ ra σa  h) sh_54 rfl (by decide) rfl km_X3_told kv_X3_told lm_X3_76 dX3_keptPart_6 hl.1 rfl rfl (Nat.le_of_ble_eq_true rfl) ⟨by decide, by decide⟩ ⟨Nat.zero_le _, Nat.zero_le _⟩ hf (fun r1 σ2 _ hf H locs hw => ?_)
    refine r_icmp_lt (tgt := 14) X dX3_keptPart_9 (by decide) hf (fun hc hf => ?_) (fun hc hf => ?_)
    · refine lv_aload_n hx hb dX3_keptPart_14 rfl (lv_at hl 0 rfl) ?_
      refine r_getr 76 X hw sh_54 fd_3_1 rfl rfl lf_X3_18 dX3_keptPart_15 ?_
      refine lv_aload_n hx hb dX3_keptPart_18 rfl (lv_at hl 0 rfl) ?_
      refine r_geti X hw sh_54 fd_3_2 rfl lf_X3_25 dX3_keptPart_19 ?_
      refine lv_aload_n hx hb dX3_keptPart_22 rfl (lv_at hl 0 rfl) ?_
      refine r_cvi (rest := [.int (mI (σ2 54 2)), .ref (ad 76)]) [] X hw (fun ra σa h => c_X3_told l D cy ad bs F σ2 ra σa  h) sh_54 rfl (by decide) rfl km_X3_told kv_X3_told lm_X3_76 dX3_keptPart_23 hl.1 rfl rfl (Nat.le_of_ble_eq_true rfl) ⟨by decide, by decide⟩ ⟨Nat.zero_le _, Nat.zero_le _⟩ hf (fun r3 σ4 _ hf H locs hw => ?_)
      refine r_isub X dX3_keptPart_26 ?_
      refine lv_iload_n hx hb dX3_keptPart_27 rfl (lv_at hl 1 rfl) ?_
      refine r_iadd X dX3_keptPart_28 ?_
      refine lv_bipush (v := mI 60) hx hb dX3_keptPart_29 (by decide) ?_
      refine r_csi (rest := [.ref (ad 76)]) [.int (mI (((σ2 54 2) - r3) + x1)), .int (mI 60)] X hw (fun ra σa h => c_J9_floorMod_7cf53 l D cy ad bs F (((σ2 54 2) - r3) + x1) 60 σ4 ra σa  h) km_J9_floorMod_7cf53 ks_J9_floorMod_7cf53 lm_X3_41 dX3_keptPart_31 hl.1 rfl rfl (Nat.le_of_ble_eq_true rfl) ⟨by decide, by decide⟩ ⟨Nat.zero_le _, Nat.zero_le _⟩ hf (fun r5 σ6 _ hf H locs hw => ?_)
      refine r_iald (60 : Int) rfl X hw sh_76 dX3_keptPart_34 hf (fun hf => ?_)
      refine r_leti hf (fun y7 hf => ?_)
      refine lv_istore_n (lv' := [(3, .int (mI y7)), (0, .ref (ad 54)), (1, .int (mI x1)), (2, .int (mI x2))]) hx hb dX3_keptPart_35 rfl hl (by decide) rfl (fun ls hl => ?_)
      refine lv_iload_n hx hb dX3_keptPart_36 rfl (lv_at hl 3 rfl) ?_
      refine r_case hf (fun hc0 hf => ?_) (fun hc0 hf => ?_)
      · refine r_tin (k := 0) (off := 31) (tgt := 68) X dX3_keptPart_37 hc0 (by decide) (by decide) rfl (by decide) ?_
        refine lv_iload_n hx hb dX3_keptPart_68 rfl (lv_at hl 0 rfl) ?_
        refine lv_bipush (v := mI 11) hx hb dX3_keptPart_69 (by decide) ?_
        refine r_ishr X dX3_keptPart_71 ?_
        exact r_iret X hw dX3_keptPart_72 hf
      refine r_case hf (fun hc1 hf => ?_) (fun hc1 hf => ?_)
      · refine r_tin (k := 1) (off := 36) (tgt := 73) X dX3_keptPart_37 hc1 (by decide) (by decide) rfl (by decide) ?_
        refine lv_iload_n hx hb dX3_keptPart_73 rfl (lv_at hl 0 rfl) ?_
        refine lv_bipush (v := mI 8) hx hb dX3_keptPart_74 (by decide) ?_
        refine r_ishr X dX3_keptPart_76 ?_
        refine lv_bipush (v := mI 7) hx hb dX3_keptPart_77 (by decide) ?_
        refine r_iand X dX3_keptPart_79 ?_
        exact r_iret X hw dX3_keptPart_80 hf
      refine r_case hf (fun hc2 hf => ?_) (fun hc2 hf => ?_)
      · refine r_tin (k := 2) (off := 44) (tgt := 81) X dX3_keptPart_37 hc2 (by decide) (by decide) rfl (by decide) ?_
        refine lv_iload_n hx hb dX3_keptPart_81 rfl (lv_at hl 0 rfl) ?_
        refine lv_bipush (v := mI 15) hx hb dX3_keptPart_82 (by decide) ?_
        refine r_iand X dX3_keptPart_84 ?_
        exact r_iret X hw dX3_keptPart_85 hf
      refine r_case hf (fun hc3 hf => ?_) (fun hc3 hf => ?_)
      · refine r_tin (k := 3) (off := 49) (tgt := 86) X dX3_keptPart_37 hc3 (by decide) (by decide) rfl (by decide) ?_
        refine lv_iload_n hx hb dX3_keptPart_86 rfl (lv_at hl 0 rfl) ?_
        refine lv_iconst (v := mI 4) hx hb dX3_keptPart_87 rfl ?_
        refine r_ishr X dX3_keptPart_88 ?_
        refine lv_bipush (v := mI 15) hx hb dX3_keptPart_89 (by decide) ?_
        refine r_iand X dX3_keptPart_91 ?_
        exact r_iret X hw dX3_keptPart_92 hf
      refine r_tout (tgt := 93) X dX3_keptPart_37 (by omega) (by decide) ?_
      refine lv_iconst (v := mI (-1)) hx hb dX3_keptPart_93 rfl ?_
      exact r_iret X hw dX3_keptPart_94 hf
    · exact w_X3_keptPart_b12 X hw (lv_sub hl [0] rfl) hf
def g_X4_byteAt_b31 (F : Nat)  (t0 : Int) (σ : mMem) : mRs := some (t0, σ)
set_option maxRecDepth 100000 in
set_option maxHeartbeats 4000000 in
theorem w_X4_byteAt_b31 {p : Program} {l : Launch} {e : Env} {s : State} {m : MethodId} {args : Array Value} {below : List Frame} {meth : Method} {c : Code} {D : va_G} {cy : Nat → ClassId} {ad : Nat → Nat} {bs : Nat} {F : Nat}  (X : mCx p m c cX4_byteAt 2 s args RX4 meth D cy (some .int))  {r : Int} {σ' : mMem}   {t0 : Int} {σ : mMem} {H : Heap} {locs : List Loc} {ls : Array Slot} (hw : mWd D cy ad bs true mN σ s.heap H locs) (hl : lv_has ls 2 [(0, .ref (ad 77))]) (hf : g_X4_byteAt_b31 F t0 σ = some (r, σ')) : mGi p l e 1 s m args below meth c D cy ad bs r σ' H locs (F0 m 31 ls [.int (mI t0)]) := by
  obtain ⟨⟨hx, hb, -, -, -⟩, -⟩ := id X
  unfold g_X4_byteAt_b31 at hf
  exact r_iret X hw dX4_byteAt_31 hf
def g_X4_byteAt_b21 (F : Nat)  (σ : mMem) : mRs := g_X4_byteAt_b31 F (-1) σ
set_option maxRecDepth 100000 in
set_option maxHeartbeats 4000000 in
theorem w_X4_byteAt_b21 {p : Program} {l : Launch} {e : Env} {s : State} {m : MethodId} {args : Array Value} {below : List Frame} {meth : Method} {c : Code} {D : va_G} {cy : Nat → ClassId} {ad : Nat → Nat} {bs : Nat} {F : Nat}  (X : mCx p m c cX4_byteAt 2 s args RX4 meth D cy (some .int))  {r : Int} {σ' : mMem}    {σ : mMem} {H : Heap} {locs : List Loc} {ls : Array Slot} (hw : mWd D cy ad bs true mN σ s.heap H locs) (hl : lv_has ls 2 [(0, .ref (ad 77))]) (hf : g_X4_byteAt_b21 F  σ = some (r, σ')) : mGi p l e 1 s m args below meth c D cy ad bs r σ' H locs (F0 m 21 ls []) := by
  obtain ⟨⟨hx, hb, -, -, -⟩, -⟩ := id X
  unfold g_X4_byteAt_b21 at hf
  refine lv_iconst (v := mI (-1)) hx hb dX4_byteAt_21 rfl ?_
  refine lv_goto (tgt := 31) hx hb dX4_byteAt_22 (by decide) ?_
  exact w_X4_byteAt_b31 X hw (lv_sub hl [0] rfl) hf
def g_X4_byteAt (F : Nat) (x1 : Int) (σ : mMem) : mRs := if mw x1 < 0 then (g_X4_byteAt_b21 F σ) else (if mw (σ 77 1) ≤ mw x1 then (g_X4_byteAt_b21 F σ) else (if mw x1 < mw 52 then (if 0 ≤ mw x1 ∧ mw x1 < (52 : Int) then g_X4_byteAt_b31 F (σ 78 (mw x1).toNat) σ else none) else (g_X4_byteAt_b21 F σ)))
set_option maxRecDepth 100000 in
set_option maxHeartbeats 4000000 in
theorem c_X4_byteAt (l : Launch) (D : va_G) (cy : Nat → ClassId) (ad : Nat → Nat) (bs : Nat) (F : Nat)  (x1 : Int) (σ : mMem) (r : Int) (σ' : mMem)  (hf : g_X4_byteAt F x1 σ = some (r, σ')) : mCi l D cy ad bs yX4_byteAt cX4_byteAt 2 (some .int) 1 [.ref (ad 77), .int (mI x1)] σ r σ' := by
  refine mCi.of (lv := [(0, .ref (ad 77)), (1, .int (mI x1))]) km_X4_byteAt.2.2.2.2.2 (Nat.le_of_ble_eq_true rfl) rfl (fun p e s m args below meth c H locs ls X hw hl => ?_)
  obtain ⟨⟨hx, hb, -, -, -⟩, -⟩ := id X
  unfold g_X4_byteAt at hf
  refine lv_iload_n hx hb dX4_byteAt_0 rfl (lv_at hl 1 rfl) ?_
  refine r_if_lt (tgt := 21) X dX4_byteAt_1 (by decide) hf (fun hc hf => ?_) (fun hc hf => ?_)
  · exact w_X4_byteAt_b21 X hw (lv_sub hl [0] rfl) hf
  · refine lv_iload_n hx hb dX4_byteAt_4 rfl (lv_at hl 1 rfl) ?_
    refine lv_aload_n hx hb dX4_byteAt_5 rfl (lv_at hl 0 rfl) ?_
    refine r_geti X hw sh_77 fd_4_1 rfl lf_X4_17 dX4_byteAt_6 ?_
    refine r_icmp_ge (tgt := 21) X dX4_byteAt_9 (by decide) hf (fun hc hf => ?_) (fun hc hf => ?_)
    · exact w_X4_byteAt_b21 X hw (lv_sub hl [0] rfl) hf
    · refine lv_iload_n hx hb dX4_byteAt_12 rfl (lv_at hl 1 rfl) ?_
      refine lv_aload_n hx hb dX4_byteAt_13 rfl (lv_at hl 0 rfl) ?_
      refine r_getr 78 X hw sh_77 fd_4_0 rfl rfl lf_X4_13 dX4_byteAt_14 ?_
      refine r_ileni (52 : Int) rfl X hw sh_78 dX4_byteAt_17 ?_
      refine r_icmp_lt (tgt := 25) X dX4_byteAt_18 (by decide) hf (fun hc hf => ?_) (fun hc hf => ?_)
      · refine lv_aload_n hx hb dX4_byteAt_25 rfl (lv_at hl 0 rfl) ?_
        refine r_getr 78 X hw sh_77 fd_4_0 rfl rfl lf_X4_13 dX4_byteAt_26 ?_
        refine lv_iload_n hx hb dX4_byteAt_29 rfl (lv_at hl 1 rfl) ?_
        refine r_iald (52 : Int) rfl X hw sh_78 dX4_byteAt_30 hf (fun hf => ?_)
        exact w_X4_byteAt_b31 X hw (lv_sub hl [0] rfl) hf
      · exact w_X4_byteAt_b21 X hw (lv_sub hl [0] rfl) hf
def g_X4_add_b39 (F : Nat)  (σ : mMem) : mRs := some (0, σ)
set_option maxRecDepth 100000 in
set_option maxHeartbeats 4000000 in
theorem w_X4_add_b39 {p : Program} {l : Launch} {e : Env} {s : State} {m : MethodId} {args : Array Value} {below : List Frame} {meth : Method} {c : Code} {D : va_G} {cy : Nat → ClassId} {ad : Nat → Nat} {bs : Nat} {F : Nat}  (X : mCx p m c cX4_add 2 s args RX4 meth D cy none)  {r : Int} {σ' : mMem}    {σ : mMem} {H : Heap} {locs : List Loc} {ls : Array Slot} (hw : mWd D cy ad bs true mN σ s.heap H locs) (hl : lv_has ls 2 [(0, .ref (ad 77))]) (hf : g_X4_add_b39 F  σ = some (r, σ')) : mGv p l e 1 s m args below meth c D cy ad bs σ' H locs (F0 m 39 ls []) := by
  obtain ⟨⟨hx, hb, -, -, -⟩, -⟩ := id X
  unfold g_X4_add_b39 at hf
  exact r_vret X hw dX4_add_39 hf
def g_X4_add (F : Nat) (x1 : Int) (σ : mMem) : mRs := if mw (σ 77 1) < 0 then (g_X4_add_b39 F σ) else (if mw 52 ≤ mw (σ 77 1) then (g_X4_add_b39 F σ) else (if 0 ≤ mw (σ 77 1) ∧ mw (σ 77 1) < (52 : Int) then mlm (mup σ 78 (mw (σ 77 1)).toNat x1) (fun σ1 => mlm (mup σ1 77 1 ((σ1 77 1) + 1)) (fun σ2 => g_X4_add_b39 F σ2)) else none))
set_option maxRecDepth 100000 in
set_option maxHeartbeats 4000000 in
theorem c_X4_add (l : Launch) (D : va_G) (cy : Nat → ClassId) (ad : Nat → Nat) (bs : Nat) (F : Nat)  (x1 : Int) (σ : mMem) (r : Int) (σ' : mMem)  (hf : g_X4_add F x1 σ = some (r, σ')) : mCv l D cy ad bs yX4_add cX4_add 2 none 1 [.ref (ad 77), .int (mI x1)] σ σ' := by
  refine mCv.of (lv := [(0, .ref (ad 77)), (1, .int (mI x1))]) km_X4_add.2.2.2.2.2 (Nat.le_of_ble_eq_true rfl) rfl (fun p e s m args below meth c H locs ls X hw hl => ?_)
  obtain ⟨⟨hx, hb, -, -, -⟩, -⟩ := id X
  unfold g_X4_add at hf
  refine lv_aload_n hx hb dX4_add_0 rfl (lv_at hl 0 rfl) ?_
  refine r_geti X hw sh_77 fd_4_1 rfl lf_X4_17 dX4_add_1 ?_
  refine r_if_lt (tgt := 39) X dX4_add_4 (by decide) hf (fun hc hf => ?_) (fun hc hf => ?_)
  · exact w_X4_add_b39 X hw (lv_sub hl [0] rfl) hf
  · refine lv_aload_n hx hb dX4_add_7 rfl (lv_at hl 0 rfl) ?_
    refine r_geti X hw sh_77 fd_4_1 rfl lf_X4_17 dX4_add_8 ?_
    refine lv_aload_n hx hb dX4_add_11 rfl (lv_at hl 0 rfl) ?_
    refine r_getr 78 X hw sh_77 fd_4_0 rfl rfl lf_X4_13 dX4_add_12 ?_
    refine r_ileni (52 : Int) rfl X hw sh_78 dX4_add_15 ?_
    refine r_icmp_ge (tgt := 39) X dX4_add_16 (by decide) hf (fun hc hf => ?_) (fun hc hf => ?_)
    · exact w_X4_add_b39 X hw (lv_sub hl [0] rfl) hf
    · refine lv_aload_n hx hb dX4_add_19 rfl (lv_at hl 0 rfl) ?_
      refine r_getr 78 X hw sh_77 fd_4_0 rfl rfl lf_X4_13 dX4_add_20 ?_
      refine lv_aload_n hx hb dX4_add_23 rfl (lv_at hl 0 rfl) ?_
      refine r_geti X hw sh_77 fd_4_1 rfl lf_X4_17 dX4_add_24 ?_
      refine lv_iload_n hx hb dX4_add_27 rfl (lv_at hl 1 rfl) ?_
      refine r_iast (52 : Int) rfl X hw sh_78 dX4_add_28 hf (fun hf H locs hw => ?_)
      refine r_mem hf hw (fun σ1 hw hf => ?_)
      refine lv_aload_n hx hb dX4_add_29 rfl (lv_at hl 0 rfl) ?_
      refine lv_dup hx hb dX4_add_30 rfl ?_
      refine r_geti X hw sh_77 fd_4_1 rfl lf_X4_17 dX4_add_31 ?_
      refine lv_iconst (v := mI 1) hx hb dX4_add_34 rfl ?_
      refine r_iadd X dX4_add_35 ?_
      refine r_puti X hw sh_77 fd_4_1 fp_4_1 rfl rfl lf_X4_17 dX4_add_36 (fun H locs hw => ?_)
      refine r_mem hf hw (fun σ2 hw hf => ?_)
      exact w_X4_add_b39 X hw (lv_sub hl [0] rfl) hf
def g_X4_addPair (F : Nat) (x1 : Int) (σ : mMem) : mRs := mob (g_X4_add F (mshr x1 8) σ) (fun r1 σ2 => mob (g_X4_add F (mand x1 255) σ2) (fun r3 σ4 => some (0, σ4)))
set_option maxRecDepth 100000 in
set_option maxHeartbeats 4000000 in
theorem c_X4_addPair (l : Launch) (D : va_G) (cy : Nat → ClassId) (ad : Nat → Nat) (bs : Nat) (F : Nat)  (x1 : Int) (σ : mMem) (r : Int) (σ' : mMem)  (hf : g_X4_addPair F x1 σ = some (r, σ')) : mCv l D cy ad bs yX4_addPair cX4_addPair 2 none 2 [.ref (ad 77), .int (mI x1)] σ σ' := by
  refine mCv.of (lv := [(0, .ref (ad 77)), (1, .int (mI x1))]) km_X4_addPair.2.2.2.2.2 (Nat.le_of_ble_eq_true rfl) rfl (fun p e s m args below meth c H locs ls X hw hl => ?_)
  obtain ⟨⟨hx, hb, -, -, -⟩, -⟩ := id X
  unfold g_X4_addPair at hf
  refine lv_aload_n hx hb dX4_addPair_0 rfl (lv_at hl 0 rfl) ?_
  refine lv_iload_n hx hb dX4_addPair_1 rfl (lv_at hl 1 rfl) ?_
  refine lv_bipush (v := mI 8) hx hb dX4_addPair_2 (by decide) ?_
  refine r_ishr X dX4_addPair_4 ?_
  refine r_cvv (rest := []) [.int (mI (mshr x1 8))] X hw (fun ra σa h => c_X4_add l D cy ad bs F (mshr x1 8) σ ra σa  h) sh_77 rfl (by decide) rfl km_X4_add kv_X4_add lm_X4_40 dX4_addPair_5 hl.1 rfl rfl (Nat.le_of_ble_eq_true rfl) ⟨by decide, by decide⟩ ⟨Nat.zero_le _, Nat.zero_le _⟩ hf (fun r1 σ2 _ hf H locs hw => ?_)
  refine lv_aload_n hx hb dX4_addPair_8 rfl (lv_at hl 0 rfl) ?_
  refine lv_iload_n hx hb dX4_addPair_9 rfl (lv_at hl 1 rfl) ?_
  refine lv_sipush (v := mI 255) hx hb dX4_addPair_10 (by decide) ?_
  refine r_iand X dX4_addPair_13 ?_
  refine r_cvv (rest := []) [.int (mI (mand x1 255))] X hw (fun ra σa h => c_X4_add l D cy ad bs F (mand x1 255) σ2 ra σa  h) sh_77 rfl (by decide) rfl km_X4_add kv_X4_add lm_X4_40 dX4_addPair_14 hl.1 rfl rfl (Nat.le_of_ble_eq_true rfl) ⟨by decide, by decide⟩ ⟨Nat.zero_le _, Nat.zero_le _⟩ hf (fun r3 σ4 _ hf H locs hw => ?_)
  exact r_vret X hw dX4_addPair_17 hf
def g_X4_checkedBy (F : Nat) (x0 x1 : Int) (σ : mMem) : mRs := if mw 251 = 0 then none else (some ((mw ((5 * x0) + x1)).tmod (mw 251), σ))
set_option maxRecDepth 100000 in
set_option maxHeartbeats 4000000 in
theorem c_X4_checkedBy (l : Launch) (D : va_G) (cy : Nat → ClassId) (ad : Nat → Nat) (bs : Nat) (F : Nat)  (x0 x1 : Int) (σ : mMem) (r : Int) (σ' : mMem)  (hf : g_X4_checkedBy F x0 x1 σ = some (r, σ')) : mCi l D cy ad bs yX4_checkedBy cX4_checkedBy 2 (some .int) 1 [.int (mI x0), .int (mI x1)] σ r σ' := by
  refine mCi.of (lv := [(0, .int (mI x0)), (1, .int (mI x1))]) km_X4_checkedBy.2.2.2.2.2 (Nat.le_of_ble_eq_true rfl) rfl (fun p e s m args below meth c H locs ls X hw hl => ?_)
  obtain ⟨⟨hx, hb, -, -, -⟩, -⟩ := id X
  unfold g_X4_checkedBy at hf
  refine lv_iconst (v := mI 5) hx hb dX4_checkedBy_0 rfl ?_
  refine lv_iload_n hx hb dX4_checkedBy_1 rfl (lv_at hl 0 rfl) ?_
  refine r_imul X dX4_checkedBy_2 ?_
  refine lv_iload_n hx hb dX4_checkedBy_3 rfl (lv_at hl 1 rfl) ?_
  refine r_iadd X dX4_checkedBy_4 ?_
  refine lv_sipush (v := mI 251) hx hb dX4_checkedBy_5 (by decide) ?_
  refine r_irem X dX4_checkedBy_8 hf (fun hf => ?_)
  exact r_iret X hw dX4_checkedBy_9 hf
def g_X4_write_h107 (F : Nat) (w1 : Nat)  : Nat → Int → Int → mMem → mRs
  | 0, _, _, _ => none
  | n + 1, x2, x3, σ => if mw (σ 77 1) ≤ mw x3 then (mob (g_X4_add F x2 σ) (fun r231 σ232 => some (σ232 77 1, σ232))) else (mob (g_X4_byteAt F x3 σ) (fun r233 σ234 => mob (g_X4_checkedBy F x2 r233 σ234) (fun r235 σ236 => (g_X4_write_h107 F w1 n) r235 (x3 + 1) σ236)))
set_option maxRecDepth 100000 in
set_option maxHeartbeats 4000000 in
theorem w_X4_write_h107 {p : Program} {l : Launch} {e : Env} {s : State} {m : MethodId} {args : Array Value} {below : List Frame} {meth : Method} {c : Code} {D : va_G} {cy : Nat → ClassId} {ad : Nat → Nat} {bs : Nat} {F : Nat} {w1 : Nat} (X : mCx p m c cX4_write 4 s args RX4 meth D cy (some .int)) (hw1 : mWorld w1) {r : Int} {σ' : mMem}   (n : Nat) : ∀ {x2 x3 : Int} {σ : mMem} {H : Heap} {locs : List Loc} {ls : Array Slot} (_ : mWd D cy ad bs true mN σ s.heap H locs) (_ : lv_has ls 4 [(0, .ref (ad 77)), (1, .ref (ad w1)), (2, .int (mI x2)), (3, .int (mI x3))]) (_ : g_X4_write_h107 F w1 n x2 x3 σ = some (r, σ')), mGi p l e 3 s m args below meth c D cy ad bs r σ' H locs (F0 m 107 ls []) := by
  obtain ⟨⟨hx, hb, -, -, -⟩, -⟩ := id X
  induction n with
  | zero =>
    intro x2 x3 σ H locs ls hw hl hf
    unfold g_X4_write_h107 at hf
    cases hf
  | succ n ih =>
    have hk107 : ∀ (x2 x3 : Int) (σ : mMem) (H : Heap) (locs : List Loc) (ls : Array Slot), mWd D cy ad bs true mN σ s.heap H locs → lv_has ls 4 [(0, .ref (ad 77)), (1, .ref (ad w1)), (2, .int (mI x2)), (3, .int (mI x3))] → g_X4_write_h107 F w1 n x2 x3 σ = some (r, σ') → mGi p l e 3 s m args below meth c D cy ad bs r σ' H locs (F0 m 107 ls []) := fun x2 x3 σ H locs ls hw hl hf => ih hw hl hf
    intro x2 x3 σ H locs ls hw hl hf
    unfold g_X4_write_h107 at hf
    refine lv_iload_n hx hb dX4_write_107 rfl (lv_at hl 3 rfl) ?_
    refine lv_aload_n hx hb dX4_write_108 rfl (lv_at hl 0 rfl) ?_
    refine r_geti X hw sh_77 fd_4_1 rfl lf_X4_17 dX4_write_109 ?_
    refine r_icmp_ge (tgt := 131) X dX4_write_112 (by decide) hf (fun hc hf => ?_) (fun hc hf => ?_)
    · refine lv_aload_n hx hb dX4_write_131 rfl (lv_at hl 0 rfl) ?_
      refine lv_iload_n hx hb dX4_write_132 rfl (lv_at hl 2 rfl) ?_
      refine r_cvv (rest := []) [.int (mI x2)] X hw (fun ra σa h => c_X4_add l D cy ad bs F x2 σ ra σa  h) sh_77 rfl (by decide) rfl km_X4_add kv_X4_add lm_X4_40 dX4_write_133 hl.1 rfl rfl (Nat.le_of_ble_eq_true rfl) ⟨by decide, by decide⟩ ⟨Nat.zero_le _, Nat.zero_le _⟩ hf (fun r231 σ232 _ hf H locs hw => ?_)
      refine lv_aload_n hx hb dX4_write_136 rfl (lv_at hl 0 rfl) ?_
      refine r_geti X hw sh_77 fd_4_1 rfl lf_X4_17 dX4_write_137 ?_
      exact r_iret X hw dX4_write_140 hf
    · refine lv_iload_n hx hb dX4_write_115 rfl (lv_at hl 2 rfl) ?_
      refine lv_aload_n hx hb dX4_write_116 rfl (lv_at hl 0 rfl) ?_
      refine lv_iload_n hx hb dX4_write_117 rfl (lv_at hl 3 rfl) ?_
      refine r_cvi (rest := [.int (mI x2)]) [.int (mI x3)] X hw (fun ra σa h => c_X4_byteAt l D cy ad bs F x3 σ ra σa  h) sh_77 rfl (by decide) rfl km_X4_byteAt kv_X4_byteAt lm_X4_54 dX4_write_118 hl.1 rfl rfl (Nat.le_of_ble_eq_true rfl) ⟨by decide, by decide⟩ ⟨Nat.zero_le _, Nat.zero_le _⟩ hf (fun r233 σ234 _ hf H locs hw => ?_)
      refine r_csi (rest := []) [.int (mI x2), .int (mI r233)] X hw (fun ra σa h => c_X4_checkedBy l D cy ad bs F x2 r233 σ234 ra σa  h) km_X4_checkedBy ks_X4_checkedBy lm_X4_58 dX4_write_121 hl.1 rfl rfl (Nat.le_of_ble_eq_true rfl) ⟨by decide, by decide⟩ ⟨Nat.zero_le _, Nat.zero_le _⟩ hf (fun r235 σ236 _ hf H locs hw => ?_)
      refine lv_istore_n (lv' := [(2, .int (mI r235)), (0, .ref (ad 77)), (1, .ref (ad w1)), (3, .int (mI x3))]) hx hb dX4_write_124 rfl hl (by decide) rfl (fun ls hl => ?_)
      refine lv_iinc (v := mI (x3 + 1)) (lv' := [(3, .int (mI (x3 + 1))), (2, .int (mI r235)), (0, .ref (ad 77)), (1, .ref (ad w1))]) hx hb dX4_write_125 hl (k := 3) rfl (mI_add _ _) (by decide) rfl (fun ls hl => ?_)
      refine lv_goto (tgt := 107) hx hb dX4_write_128 (by decide) ?_
      exact hk107 r235 (x3 + 1) σ236 _ _ _ hw (lv_sub hl [2, 3, 1, 0] rfl) hf
def g_X4_write_h23 (F : Nat) (w1 : Nat)  : Nat → Int → mMem → mRs
  | 0, _, _ => none
  | n + 1, x2, σ => if σ w1 3 = 3 ∨ σ w1 3 = 8 then if mw (σ (σ w1 3).toNat 11) ≤ mw x2 then (g_X4_write_h107 F w1 F 179 0 σ) else (mob (g_X10_of F w1 x2 0 σ) (fun r107 σ108 => mob (g_X4_add F r107 σ108) (fun r109 σ110 => mob (g_X10_of F w1 x2 1 σ110) (fun r111 σ112 => mob (g_X4_add F r111 σ112) (fun r113 σ114 => mob (g_X10_of F w1 x2 2 σ114) (fun r115 σ116 => mob (g_X4_add F r115 σ116) (fun r117 σ118 => mob (g_X10_of F w1 x2 3 σ118) (fun r119 σ120 => mob (g_X4_addPair F r119 σ120) (fun r121 σ122 => mob (g_X10_of F w1 x2 4 σ122) (fun r123 σ124 => mob (g_X4_add F r123 σ124) (fun r125 σ126 => mob (g_X10_of F w1 x2 8 σ126) (fun r127 σ128 => mob (g_X4_addPair F r127 σ128) (fun r129 σ130 => (g_X4_write_h23 F w1 n) (x2 + 1) σ130))))))))))))) else none
set_option maxRecDepth 100000 in
set_option maxHeartbeats 4000000 in
theorem w_X4_write_h23 {p : Program} {l : Launch} {e : Env} {s : State} {m : MethodId} {args : Array Value} {below : List Frame} {meth : Method} {c : Code} {D : va_G} {cy : Nat → ClassId} {ad : Nat → Nat} {bs : Nat} {F : Nat} {w1 : Nat} (X : mCx p m c cX4_write 4 s args RX4 meth D cy (some .int)) (hw1 : mWorld w1) {r : Int} {σ' : mMem}   (n : Nat) : ∀ {x2 : Int} {σ : mMem} {H : Heap} {locs : List Loc} {ls : Array Slot} (_ : mWd D cy ad bs true mN σ s.heap H locs) (_ : lv_has ls 4 [(0, .ref (ad 77)), (1, .ref (ad w1)), (2, .int (mI x2))]) (_ : g_X4_write_h23 F w1 n x2 σ = some (r, σ')), mGi p l e 3 s m args below meth c D cy ad bs r σ' H locs (F0 m 23 ls []) := by
  obtain ⟨⟨hx, hb, -, -, -⟩, -⟩ := id X
  induction n with
  | zero =>
    intro x2 σ H locs ls hw hl hf
    unfold g_X4_write_h23 at hf
    cases hf
  | succ n ih =>
    have hk23 : ∀ (x2 : Int) (σ : mMem) (H : Heap) (locs : List Loc) (ls : Array Slot), mWd D cy ad bs true mN σ s.heap H locs → lv_has ls 4 [(0, .ref (ad 77)), (1, .ref (ad w1)), (2, .int (mI x2))] → g_X4_write_h23 F w1 n x2 σ = some (r, σ') → mGi p l e 3 s m args below meth c D cy ad bs r σ' H locs (F0 m 23 ls []) := fun x2 σ H locs ls hw hl hf => ih hw hl hf
    intro x2 σ H locs ls hw hl hf
    unfold g_X4_write_h23 at hf
    refine lv_iload_n hx hb dX4_write_23 rfl (lv_at hl 2 rfl) ?_
    refine lv_aload_n hx hb dX4_write_24 rfl (lv_at hl 1 rfl) ?_
    refine r_getp X hw hw1.1 fd_10_3 rfl lf_X4_43 dX4_write_25 hf (fun hg106 hf => ?_)
    refine r_geti X hw (mPlan_z hg106).1 fd_5_11 rfl lf_X4_47 dX4_write_28 ?_
    refine r_icmp_ge (tgt := 101) X dX4_write_31 (by decide) hf (fun hc hf => ?_) (fun hc hf => ?_)
    · refine lv_sipush (v := mI 179) hx hb dX4_write_101 (by decide) ?_
      refine lv_istore_n (lv' := [(2, .int (mI 179)), (0, .ref (ad 77)), (1, .ref (ad w1))]) hx hb dX4_write_104 rfl hl (by decide) rfl (fun ls hl => ?_)
      refine lv_iconst (v := mI 0) hx hb dX4_write_105 rfl ?_
      refine lv_istore_n (lv' := [(3, .int (mI 0)), (2, .int (mI 179)), (0, .ref (ad 77)), (1, .ref (ad w1))]) hx hb dX4_write_106 rfl hl (by decide) rfl (fun ls hl => ?_)
      exact w_X4_write_h107 X hw1 _ hw (lv_sub hl [2, 3, 1, 0] rfl) hf
    · refine lv_aload_n hx hb dX4_write_34 rfl (lv_at hl 0 rfl) ?_
      refine lv_aload_n hx hb dX4_write_35 rfl (lv_at hl 1 rfl) ?_
      refine lv_iload_n hx hb dX4_write_36 rfl (lv_at hl 2 rfl) ?_
      refine lv_iconst (v := mI 0) hx hb dX4_write_37 rfl ?_
      refine r_cvi (rest := [.ref (ad 77)]) [.int (mI x2), .int (mI 0)] X hw (fun ra σa h => c_X10_of l D cy ad bs F w1 x2 0 σ ra σa hw1 h) hw1.1 rfl (by decide) rfl km_X10_of kv_X10_of lm_X4_50 dX4_write_38 hl.1 rfl rfl (Nat.le_of_ble_eq_true rfl) ⟨by decide, by decide⟩ ⟨Nat.zero_le _, Nat.zero_le _⟩ hf (fun r107 σ108 _ hf H locs hw => ?_)
      refine r_cvv (rest := []) [.int (mI r107)] X hw (fun ra σa h => c_X4_add l D cy ad bs F r107 σ108 ra σa  h) sh_77 rfl (by decide) rfl km_X4_add kv_X4_add lm_X4_40 dX4_write_41 hl.1 rfl rfl (Nat.le_of_ble_eq_true rfl) ⟨by decide, by decide⟩ ⟨Nat.zero_le _, Nat.zero_le _⟩ hf (fun r109 σ110 _ hf H locs hw => ?_)
      refine lv_aload_n hx hb dX4_write_44 rfl (lv_at hl 0 rfl) ?_
      refine lv_aload_n hx hb dX4_write_45 rfl (lv_at hl 1 rfl) ?_
      refine lv_iload_n hx hb dX4_write_46 rfl (lv_at hl 2 rfl) ?_
      refine lv_iconst (v := mI 1) hx hb dX4_write_47 rfl ?_
      refine r_cvi (rest := [.ref (ad 77)]) [.int (mI x2), .int (mI 1)] X hw (fun ra σa h => c_X10_of l D cy ad bs F w1 x2 1 σ110 ra σa hw1 h) hw1.1 rfl (by decide) rfl km_X10_of kv_X10_of lm_X4_50 dX4_write_48 hl.1 rfl rfl (Nat.le_of_ble_eq_true rfl) ⟨by decide, by decide⟩ ⟨Nat.zero_le _, Nat.zero_le _⟩ hf (fun r111 σ112 _ hf H locs hw => ?_)
      refine r_cvv (rest := []) [.int (mI r111)] X hw (fun ra σa h => c_X4_add l D cy ad bs F r111 σ112 ra σa  h) sh_77 rfl (by decide) rfl km_X4_add kv_X4_add lm_X4_40 dX4_write_51 hl.1 rfl rfl (Nat.le_of_ble_eq_true rfl) ⟨by decide, by decide⟩ ⟨Nat.zero_le _, Nat.zero_le _⟩ hf (fun r113 σ114 _ hf H locs hw => ?_)
      refine lv_aload_n hx hb dX4_write_54 rfl (lv_at hl 0 rfl) ?_
      refine lv_aload_n hx hb dX4_write_55 rfl (lv_at hl 1 rfl) ?_
      refine lv_iload_n hx hb dX4_write_56 rfl (lv_at hl 2 rfl) ?_
      refine lv_iconst (v := mI 2) hx hb dX4_write_57 rfl ?_
      refine r_cvi (rest := [.ref (ad 77)]) [.int (mI x2), .int (mI 2)] X hw (fun ra σa h => c_X10_of l D cy ad bs F w1 x2 2 σ114 ra σa hw1 h) hw1.1 rfl (by decide) rfl km_X10_of kv_X10_of lm_X4_50 dX4_write_58 hl.1 rfl rfl (Nat.le_of_ble_eq_true rfl) ⟨by decide, by decide⟩ ⟨Nat.zero_le _, Nat.zero_le _⟩ hf (fun r115 σ116 _ hf H locs hw => ?_)
      refine r_cvv (rest := []) [.int (mI r115)] X hw (fun ra σa h => c_X4_add l D cy ad bs F r115 σ116 ra σa  h) sh_77 rfl (by decide) rfl km_X4_add kv_X4_add lm_X4_40 dX4_write_61 hl.1 rfl rfl (Nat.le_of_ble_eq_true rfl) ⟨by decide, by decide⟩ ⟨Nat.zero_le _, Nat.zero_le _⟩ hf (fun r117 σ118 _ hf H locs hw => ?_)
      refine lv_aload_n hx hb dX4_write_64 rfl (lv_at hl 0 rfl) ?_
      refine lv_aload_n hx hb dX4_write_65 rfl (lv_at hl 1 rfl) ?_
      refine lv_iload_n hx hb dX4_write_66 rfl (lv_at hl 2 rfl) ?_
      refine lv_iconst (v := mI 3) hx hb dX4_write_67 rfl ?_
      refine r_cvi (rest := [.ref (ad 77)]) [.int (mI x2), .int (mI 3)] X hw (fun ra σa h => c_X10_of l D cy ad bs F w1 x2 3 σ118 ra σa hw1 h) hw1.1 rfl (by decide) rfl km_X10_of kv_X10_of lm_X4_50 dX4_write_68 hl.1 rfl rfl (Nat.le_of_ble_eq_true rfl) ⟨by decide, by decide⟩ ⟨Nat.zero_le _, Nat.zero_le _⟩ hf (fun r119 σ120 _ hf H locs hw => ?_)
      refine r_cvv (rest := []) [.int (mI r119)] X hw (fun ra σa h => c_X4_addPair l D cy ad bs F r119 σ120 ra σa  h) sh_77 rfl (by decide) rfl km_X4_addPair kv_X4_addPair lm_X4_33 dX4_write_71 hl.1 rfl rfl (Nat.le_of_ble_eq_true rfl) ⟨by decide, by decide⟩ ⟨Nat.zero_le _, Nat.zero_le _⟩ hf (fun r121 σ122 _ hf H locs hw => ?_)
      refine lv_aload_n hx hb dX4_write_74 rfl (lv_at hl 0 rfl) ?_
      refine lv_aload_n hx hb dX4_write_75 rfl (lv_at hl 1 rfl) ?_
      refine lv_iload_n hx hb dX4_write_76 rfl (lv_at hl 2 rfl) ?_
      refine lv_iconst (v := mI 4) hx hb dX4_write_77 rfl ?_
      refine r_cvi (rest := [.ref (ad 77)]) [.int (mI x2), .int (mI 4)] X hw (fun ra σa h => c_X10_of l D cy ad bs F w1 x2 4 σ122 ra σa hw1 h) hw1.1 rfl (by decide) rfl km_X10_of kv_X10_of lm_X4_50 dX4_write_78 hl.1 rfl rfl (Nat.le_of_ble_eq_true rfl) ⟨by decide, by decide⟩ ⟨Nat.zero_le _, Nat.zero_le _⟩ hf (fun r123 σ124 _ hf H locs hw => ?_)
      refine r_cvv (rest := []) [.int (mI r123)] X hw (fun ra σa h => c_X4_add l D cy ad bs F r123 σ124 ra σa  h) sh_77 rfl (by decide) rfl km_X4_add kv_X4_add lm_X4_40 dX4_write_81 hl.1 rfl rfl (Nat.le_of_ble_eq_true rfl) ⟨by decide, by decide⟩ ⟨Nat.zero_le _, Nat.zero_le _⟩ hf (fun r125 σ126 _ hf H locs hw => ?_)
      refine lv_aload_n hx hb dX4_write_84 rfl (lv_at hl 0 rfl) ?_
      refine lv_aload_n hx hb dX4_write_85 rfl (lv_at hl 1 rfl) ?_
      refine lv_iload_n hx hb dX4_write_86 rfl (lv_at hl 2 rfl) ?_
      refine lv_bipush (v := mI 8) hx hb dX4_write_87 (by decide) ?_
      refine r_cvi (rest := [.ref (ad 77)]) [.int (mI x2), .int (mI 8)] X hw (fun ra σa h => c_X10_of l D cy ad bs F w1 x2 8 σ126 ra σa hw1 h) hw1.1 rfl (by decide) rfl km_X10_of kv_X10_of lm_X4_50 dX4_write_89 hl.1 rfl rfl (Nat.le_of_ble_eq_true rfl) ⟨by decide, by decide⟩ ⟨Nat.zero_le _, Nat.zero_le _⟩ hf (fun r127 σ128 _ hf H locs hw => ?_)
      refine r_cvv (rest := []) [.int (mI r127)] X hw (fun ra σa h => c_X4_addPair l D cy ad bs F r127 σ128 ra σa  h) sh_77 rfl (by decide) rfl km_X4_addPair kv_X4_addPair lm_X4_33 dX4_write_92 hl.1 rfl rfl (Nat.le_of_ble_eq_true rfl) ⟨by decide, by decide⟩ ⟨Nat.zero_le _, Nat.zero_le _⟩ hf (fun r129 σ130 _ hf H locs hw => ?_)
      refine lv_iinc (v := mI (x2 + 1)) (lv' := [(2, .int (mI (x2 + 1))), (0, .ref (ad 77)), (1, .ref (ad w1))]) hx hb dX4_write_95 hl (k := 2) rfl (mI_add _ _) (by decide) rfl (fun ls hl => ?_)
      refine lv_goto (tgt := 23) hx hb dX4_write_98 (by decide) ?_
      exact hk23 (x2 + 1) σ130 _ _ _ hw (lv_sub hl [1, 2, 0] rfl) hf
def g_X4_write (F : Nat) (w1 : Nat) (σ : mMem) : mRs := mlm (mup σ 77 1 0) (fun σ1 => mob (g_X4_addPair F (σ1 w1 4) σ1) (fun r2 σ3 => mob (g_X4_add F (σ3 w1 5) σ3) (fun r4 σ5 => g_X4_write_h23 F w1 F 0 σ5)))
set_option maxRecDepth 100000 in
set_option maxHeartbeats 4000000 in
theorem c_X4_write (l : Launch) (D : va_G) (cy : Nat → ClassId) (ad : Nat → Nat) (bs : Nat) (F : Nat) (w1 : Nat)  (σ : mMem) (r : Int) (σ' : mMem) (hw1 : mWorld w1) (hf : g_X4_write F w1 σ = some (r, σ')) : mCi l D cy ad bs yX4_write cX4_write 4 (some .int) 3 [.ref (ad 77), .ref (ad w1)] σ r σ' := by
  refine mCi.of (lv := [(0, .ref (ad 77)), (1, .ref (ad w1))]) km_X4_write.2.2.2.2.2 (Nat.le_of_ble_eq_true rfl) rfl (fun p e s m args below meth c H locs ls X hw hl => ?_)
  obtain ⟨⟨hx, hb, -, -, -⟩, -⟩ := id X
  unfold g_X4_write at hf
  refine lv_aload_n hx hb dX4_write_0 rfl (lv_at hl 0 rfl) ?_
  refine lv_iconst (v := mI 0) hx hb dX4_write_1 rfl ?_
  refine r_puti X hw sh_77 fd_4_1 fp_4_1 rfl rfl lf_X4_17 dX4_write_2 (fun H locs hw => ?_)
  refine r_mem hf hw (fun σ1 hw hf => ?_)
  refine lv_aload_n hx hb dX4_write_5 rfl (lv_at hl 0 rfl) ?_
  refine lv_aload_n hx hb dX4_write_6 rfl (lv_at hl 1 rfl) ?_
  refine r_geti X hw hw1.1 fd_10_4 rfl lf_X4_30 dX4_write_7 ?_
  refine r_cvv (rest := []) [.int (mI (σ1 w1 4))] X hw (fun ra σa h => c_X4_addPair l D cy ad bs F (σ1 w1 4) σ1 ra σa  h) sh_77 rfl (by decide) rfl km_X4_addPair kv_X4_addPair lm_X4_33 dX4_write_10 hl.1 rfl rfl (Nat.le_of_ble_eq_true rfl) ⟨by decide, by decide⟩ ⟨Nat.zero_le _, Nat.zero_le _⟩ hf (fun r2 σ3 _ hf H locs hw => ?_)
  refine lv_aload_n hx hb dX4_write_13 rfl (lv_at hl 0 rfl) ?_
  refine lv_aload_n hx hb dX4_write_14 rfl (lv_at hl 1 rfl) ?_
  refine r_geti X hw hw1.1 fd_10_5 rfl lf_X4_37 dX4_write_15 ?_
  refine r_cvv (rest := []) [.int (mI (σ3 w1 5))] X hw (fun ra σa h => c_X4_add l D cy ad bs F (σ3 w1 5) σ3 ra σa  h) sh_77 rfl (by decide) rfl km_X4_add kv_X4_add lm_X4_40 dX4_write_18 hl.1 rfl rfl (Nat.le_of_ble_eq_true rfl) ⟨by decide, by decide⟩ ⟨Nat.zero_le _, Nat.zero_le _⟩ hf (fun r4 σ5 _ hf H locs hw => ?_)
  refine lv_iconst (v := mI 0) hx hb dX4_write_21 rfl ?_
  refine lv_istore_n (lv' := [(2, .int (mI 0)), (0, .ref (ad 77)), (1, .ref (ad w1))]) hx hb dX4_write_22 rfl hl (by decide) rfl (fun ls hl => ?_)
  exact w_X4_write_h23 X hw1 _ hw (lv_sub hl [1, 2, 0] rfl) hf
def g_X7_at_b29 (F : Nat)  (t0 : Int) (σ : mMem) : mRs := some (t0, σ)
set_option maxRecDepth 100000 in
set_option maxHeartbeats 4000000 in
theorem w_X7_at_b29 {p : Program} {l : Launch} {e : Env} {s : State} {m : MethodId} {args : Array Value} {below : List Frame} {meth : Method} {c : Code} {D : va_G} {cy : Nat → ClassId} {ad : Nat → Nat} {bs : Nat} {F : Nat}  (X : mCx p m c cX7_at 2 s args RX7 meth D cy (some .int))  {r : Int} {σ' : mMem}   {t0 : Int} {σ : mMem} {H : Heap} {locs : List Loc} {ls : Array Slot} (hw : mWd D cy ad bs true mN σ s.heap H locs) (hl : lv_has ls 2 [(0, .ref (ad 1))]) (hf : g_X7_at_b29 F t0 σ = some (r, σ')) : mGi p l e 1 s m args below meth c D cy ad bs r σ' H locs (F0 m 29 ls [.int (mI t0)]) := by
  obtain ⟨⟨hx, hb, -, -, -⟩, -⟩ := id X
  unfold g_X7_at_b29 at hf
  exact r_iret X hw dX7_at_29 hf
def g_X7_at_b19 (F : Nat)  (σ : mMem) : mRs := g_X7_at_b29 F (-1) σ
set_option maxRecDepth 100000 in
set_option maxHeartbeats 4000000 in
theorem w_X7_at_b19 {p : Program} {l : Launch} {e : Env} {s : State} {m : MethodId} {args : Array Value} {below : List Frame} {meth : Method} {c : Code} {D : va_G} {cy : Nat → ClassId} {ad : Nat → Nat} {bs : Nat} {F : Nat}  (X : mCx p m c cX7_at 2 s args RX7 meth D cy (some .int))  {r : Int} {σ' : mMem}    {σ : mMem} {H : Heap} {locs : List Loc} {ls : Array Slot} (hw : mWd D cy ad bs true mN σ s.heap H locs) (hl : lv_has ls 2 [(0, .ref (ad 1))]) (hf : g_X7_at_b19 F  σ = some (r, σ')) : mGi p l e 1 s m args below meth c D cy ad bs r σ' H locs (F0 m 19 ls []) := by
  obtain ⟨⟨hx, hb, -, -, -⟩, -⟩ := id X
  unfold g_X7_at_b19 at hf
  refine lv_iconst (v := mI (-1)) hx hb dX7_at_19 rfl ?_
  refine lv_goto (tgt := 29) hx hb dX7_at_20 (by decide) ?_
  exact w_X7_at_b29 X hw (lv_sub hl [0] rfl) hf
def g_X7_at (F : Nat) (x1 : Int) (σ : mMem) : mRs := if mw x1 < 0 then (g_X7_at_b19 F σ) else (if mw (σ 1 1) ≤ mw x1 then (g_X7_at_b19 F σ) else (if mw x1 < mw 1600 then (if 0 ≤ mw x1 ∧ mw x1 < (1600 : Int) then g_X7_at_b29 F (σ 2 (mw x1).toNat) σ else none) else (g_X7_at_b19 F σ)))
set_option maxRecDepth 100000 in
set_option maxHeartbeats 4000000 in
theorem c_X7_at (l : Launch) (D : va_G) (cy : Nat → ClassId) (ad : Nat → Nat) (bs : Nat) (F : Nat)  (x1 : Int) (σ : mMem) (r : Int) (σ' : mMem)  (hf : g_X7_at F x1 σ = some (r, σ')) : mCi l D cy ad bs yX7_at cX7_at 2 (some .int) 1 [.ref (ad 1), .int (mI x1)] σ r σ' := by
  refine mCi.of (lv := [(0, .ref (ad 1)), (1, .int (mI x1))]) km_X7_at.2.2.2.2.2 (Nat.le_of_ble_eq_true rfl) rfl (fun p e s m args below meth c H locs ls X hw hl => ?_)
  obtain ⟨⟨hx, hb, -, -, -⟩, -⟩ := id X
  unfold g_X7_at at hf
  refine lv_iload_n hx hb dX7_at_0 rfl (lv_at hl 1 rfl) ?_
  refine r_if_lt (tgt := 19) X dX7_at_1 (by decide) hf (fun hc hf => ?_) (fun hc hf => ?_)
  · exact w_X7_at_b19 X hw (lv_sub hl [0] rfl) hf
  · refine lv_iload_n hx hb dX7_at_4 rfl (lv_at hl 1 rfl) ?_
    refine lv_aload_n hx hb dX7_at_5 rfl (lv_at hl 0 rfl) ?_
    refine r_geti X hw sh_1 fd_7_1 rfl lf_X7_15 dX7_at_6 ?_
    refine r_icmp_ge (tgt := 19) X dX7_at_9 (by decide) hf (fun hc hf => ?_) (fun hc hf => ?_)
    · exact w_X7_at_b19 X hw (lv_sub hl [0] rfl) hf
    · refine lv_iload_n hx hb dX7_at_12 rfl (lv_at hl 1 rfl) ?_
      refine lv_sipush (v := mI 1600) hx hb dX7_at_13 (by decide) ?_
      refine r_icmp_lt (tgt := 23) X dX7_at_16 (by decide) hf (fun hc hf => ?_) (fun hc hf => ?_)
      · refine lv_aload_n hx hb dX7_at_23 rfl (lv_at hl 0 rfl) ?_
        refine r_getr 2 X hw sh_1 fd_7_0 rfl rfl lf_X7_11 dX7_at_24 ?_
        refine lv_iload_n hx hb dX7_at_27 rfl (lv_at hl 1 rfl) ?_
        refine r_iald (1600 : Int) rfl X hw sh_2 dX7_at_28 hf (fun hf => ?_)
        exact w_X7_at_b29 X hw (lv_sub hl [0] rfl) hf
      · exact w_X7_at_b19 X hw (lv_sub hl [0] rfl) hf
def g_X7_pairAt (F : Nat) (x1 : Int) (σ : mMem) : mRs := mob (g_X7_at F x1 σ) (fun r1 σ2 => mob (g_X7_at F (x1 + 1) σ2) (fun r3 σ4 => some ((256 * r1) + r3, σ4)))
set_option maxRecDepth 100000 in
set_option maxHeartbeats 4000000 in
theorem c_X7_pairAt (l : Launch) (D : va_G) (cy : Nat → ClassId) (ad : Nat → Nat) (bs : Nat) (F : Nat)  (x1 : Int) (σ : mMem) (r : Int) (σ' : mMem)  (hf : g_X7_pairAt F x1 σ = some (r, σ')) : mCi l D cy ad bs yX7_pairAt cX7_pairAt 2 (some .int) 2 [.ref (ad 1), .int (mI x1)] σ r σ' := by
  refine mCi.of (lv := [(0, .ref (ad 1)), (1, .int (mI x1))]) km_X7_pairAt.2.2.2.2.2 (Nat.le_of_ble_eq_true rfl) rfl (fun p e s m args below meth c H locs ls X hw hl => ?_)
  obtain ⟨⟨hx, hb, -, -, -⟩, -⟩ := id X
  unfold g_X7_pairAt at hf
  refine lv_sipush (v := mI 256) hx hb dX7_pairAt_0 (by decide) ?_
  refine lv_aload_n hx hb dX7_pairAt_3 rfl (lv_at hl 0 rfl) ?_
  refine lv_iload_n hx hb dX7_pairAt_4 rfl (lv_at hl 1 rfl) ?_
  refine r_cvi (rest := [.int (mI 256)]) [.int (mI x1)] X hw (fun ra σa h => c_X7_at l D cy ad bs F x1 σ ra σa  h) sh_1 rfl (by decide) rfl km_X7_at kv_X7_at lm_X7_19 dX7_pairAt_5 hl.1 rfl rfl (Nat.le_of_ble_eq_true rfl) ⟨by decide, by decide⟩ ⟨Nat.zero_le _, Nat.zero_le _⟩ hf (fun r1 σ2 _ hf H locs hw => ?_)
  refine r_imul X dX7_pairAt_8 ?_
  refine lv_aload_n hx hb dX7_pairAt_9 rfl (lv_at hl 0 rfl) ?_
  refine lv_iload_n hx hb dX7_pairAt_10 rfl (lv_at hl 1 rfl) ?_
  refine lv_iconst (v := mI 1) hx hb dX7_pairAt_11 rfl ?_
  refine r_iadd X dX7_pairAt_12 ?_
  refine r_cvi (rest := [.int (mI (256 * r1))]) [.int (mI (x1 + 1))] X hw (fun ra σa h => c_X7_at l D cy ad bs F (x1 + 1) σ2 ra σa  h) sh_1 rfl (by decide) rfl km_X7_at kv_X7_at lm_X7_19 dX7_pairAt_13 hl.1 rfl rfl (Nat.le_of_ble_eq_true rfl) ⟨by decide, by decide⟩ ⟨Nat.zero_le _, Nat.zero_le _⟩ hf (fun r3 σ4 _ hf H locs hw => ?_)
  refine r_iadd X dX7_pairAt_16 ?_
  exact r_iret X hw dX7_pairAt_17 hf
def g_X4_readBox_b59 (F : Nat)  (σ : mMem) : mRs := if mw 0 = 0 ∨ mw 0 = 1 then some (0, σ) else none
set_option maxRecDepth 100000 in
set_option maxHeartbeats 4000000 in
theorem w_X4_readBox_b59 {p : Program} {l : Launch} {e : Env} {s : State} {m : MethodId} {args : Array Value} {below : List Frame} {meth : Method} {c : Code} {D : va_G} {cy : Nat → ClassId} {ad : Nat → Nat} {bs : Nat} {F : Nat}  (X : mCx p m c cX4_readBox 6 s args RX4 meth D cy (some .boolean))  {r : Int} {σ' : mMem}    {σ : mMem} {H : Heap} {locs : List Loc} {ls : Array Slot} (hw : mWd D cy ad bs true mN σ s.heap H locs) (hl : lv_has ls 6 [(0, .ref (ad 77)), (1, .ref (ad 1))]) (hf : g_X4_readBox_b59 F  σ = some (r, σ')) : mGi p l e 3 s m args below meth c D cy ad bs r σ' H locs (F0 m 59 ls []) := by
  obtain ⟨⟨hx, hb, -, -, -⟩, -⟩ := id X
  unfold g_X4_readBox_b59 at hf
  refine lv_iconst (v := mI 0) hx hb dX4_readBox_59 rfl ?_
  exact r_zret X hw dX4_readBox_60 hf
def g_X4_readBox_b212 (F : Nat)  (t0 : Int) (σ : mMem) : mRs := if mw t0 = 0 ∨ mw t0 = 1 then some (t0, σ) else none
set_option maxRecDepth 100000 in
set_option maxHeartbeats 4000000 in
theorem w_X4_readBox_b212 {p : Program} {l : Launch} {e : Env} {s : State} {m : MethodId} {args : Array Value} {below : List Frame} {meth : Method} {c : Code} {D : va_G} {cy : Nat → ClassId} {ad : Nat → Nat} {bs : Nat} {F : Nat}  (X : mCx p m c cX4_readBox 6 s args RX4 meth D cy (some .boolean))  {r : Int} {σ' : mMem}   {t0 : Int} {σ : mMem} {H : Heap} {locs : List Loc} {ls : Array Slot} (hw : mWd D cy ad bs true mN σ s.heap H locs) (hl : lv_has ls 6 [(0, .ref (ad 77)), (1, .ref (ad 1))]) (hf : g_X4_readBox_b212 F t0 σ = some (r, σ')) : mGi p l e 3 s m args below meth c D cy ad bs r σ' H locs (F0 m 212 ls [.int (mI t0)]) := by
  obtain ⟨⟨hx, hb, -, -, -⟩, -⟩ := id X
  unfold g_X4_readBox_b212 at hf
  exact r_zret X hw dX4_readBox_212 hf
def g_X4_readBox_b211 (F : Nat)  (σ : mMem) : mRs := g_X4_readBox_b212 F 0 σ
set_option maxRecDepth 100000 in
set_option maxHeartbeats 4000000 in
theorem w_X4_readBox_b211 {p : Program} {l : Launch} {e : Env} {s : State} {m : MethodId} {args : Array Value} {below : List Frame} {meth : Method} {c : Code} {D : va_G} {cy : Nat → ClassId} {ad : Nat → Nat} {bs : Nat} {F : Nat}  (X : mCx p m c cX4_readBox 6 s args RX4 meth D cy (some .boolean))  {r : Int} {σ' : mMem}    {σ : mMem} {H : Heap} {locs : List Loc} {ls : Array Slot} (hw : mWd D cy ad bs true mN σ s.heap H locs) (hl : lv_has ls 6 [(0, .ref (ad 77)), (1, .ref (ad 1))]) (hf : g_X4_readBox_b211 F  σ = some (r, σ')) : mGi p l e 3 s m args below meth c D cy ad bs r σ' H locs (F0 m 211 ls []) := by
  obtain ⟨⟨hx, hb, -, -, -⟩, -⟩ := id X
  unfold g_X4_readBox_b211 at hf
  refine lv_iconst (v := mI 0) hx hb dX4_readBox_211 rfl ?_
  exact w_X4_readBox_b212 X hw (lv_sub hl [0, 1] rfl) hf
def g_X4_readBox (F : Nat) (x2 : Int) (σ : mMem) : mRs := mlet (3 + (8 * x2)) (fun y1 => mob (g_X7_at F y1 σ) (fun r2 σ3 => mob (g_X7_at F (y1 + 1) σ3) (fun r4 σ5 => if σ5 79 3 = 3 ∨ σ5 79 3 = 8 then mob (g_X5_hasCell F (σ5 79 3).toNat r2 r4 σ5) (fun r7 σ8 => if mw r7 = 0 then (g_X4_readBox_b59 F σ8) else (mob (g_X10_boxIn F 80 60 x2 r2 r4 σ8) (fun r9 σ10 => if mw r9 = mw (-1) then (mob (g_X10_set F 79 x2 0 r2 σ10) (fun r11 σ12 => mob (g_X10_set F 79 x2 1 r4 σ12) (fun r13 σ14 => mob (g_X7_at F (y1 + 2) σ14) (fun r15 σ16 => mob (g_X10_set F 79 x2 2 r15 σ16) (fun r17 σ18 => mob (g_X7_pairAt F (y1 + 3) σ18) (fun r19 σ20 => mob (g_X10_set F 79 x2 3 r19 σ20) (fun r21 σ22 => mob (g_X7_at F (y1 + 5) σ22) (fun r23 σ24 => mob (g_X10_set F 79 x2 4 r23 σ24) (fun r25 σ26 => mob (g_X7_pairAt F (y1 + 6) σ26) (fun r27 σ28 => mob (g_X10_set F 79 x2 8 r27 σ28) (fun r29 σ30 => mob (g_X10_of F 79 x2 2 σ30) (fun r31 σ32 => if mw 3 < mw r31 then (g_X4_readBox_b211 F σ32) else (mob (g_X10_of F 79 x2 3 σ32) (fun r33 σ34 => if mw 999 < mw r33 then (g_X4_readBox_b211 F σ34) else (mob (g_X10_of F 79 x2 4 σ34) (fun r35 σ36 => if mw 99 < mw r35 then (g_X4_readBox_b211 F σ36) else (mob (g_X10_of F 79 x2 8 σ36) (fun r37 σ38 => if mw 2520 ≤ mw r37 then (g_X4_readBox_b211 F σ38) else (g_X4_readBox_b212 F 1 σ38))))))))))))))))))) else (g_X4_readBox_b59 F σ10)))) else none)))
set_option maxRecDepth 100000 in
set_option maxHeartbeats 4000000 in
theorem c_X4_readBox (l : Launch) (D : va_G) (cy : Nat → ClassId) (ad : Nat → Nat) (bs : Nat) (F : Nat)  (x2 : Int) (σ : mMem) (r : Int) (σ' : mMem)  (hf : g_X4_readBox F x2 σ = some (r, σ')) : mCi l D cy ad bs yX4_readBox cX4_readBox 6 (some .boolean) 3 [.ref (ad 77), .ref (ad 1), .int (mI x2)] σ r σ' := by
  refine mCi.of (lv := [(0, .ref (ad 77)), (1, .ref (ad 1)), (2, .int (mI x2))]) km_X4_readBox.2.2.2.2.2 (Nat.le_of_ble_eq_true rfl) rfl (fun p e s m args below meth c H locs ls X hw hl => ?_)
  obtain ⟨⟨hx, hb, -, -, -⟩, -⟩ := id X
  unfold g_X4_readBox at hf
  refine lv_iconst (v := mI 3) hx hb dX4_readBox_0 rfl ?_
  refine lv_bipush (v := mI 8) hx hb dX4_readBox_1 (by decide) ?_
  refine lv_iload_n hx hb dX4_readBox_3 rfl (lv_at hl 2 rfl) ?_
  refine r_imul X dX4_readBox_4 ?_
  refine r_iadd X dX4_readBox_5 ?_
  refine r_leti hf (fun y1 hf => ?_)
  refine lv_istore_n (lv' := [(3, .int (mI y1)), (0, .ref (ad 77)), (1, .ref (ad 1)), (2, .int (mI x2))]) hx hb dX4_readBox_6 rfl hl (by decide) rfl (fun ls hl => ?_)
  refine lv_aload_n hx hb dX4_readBox_7 rfl (lv_at hl 2 rfl) ?_
  refine lv_iload_n hx hb dX4_readBox_8 rfl (lv_at hl 0 rfl) ?_
  refine r_cvi (rest := []) [.int (mI y1)] X hw (fun ra σa h => c_X7_at l D cy ad bs F y1 σ ra σa  h) sh_1 rfl (by decide) rfl km_X7_at kv_X7_at lm_X4_64 dX4_readBox_9 hl.1 rfl rfl (Nat.le_of_ble_eq_true rfl) ⟨by decide, by decide⟩ ⟨Nat.zero_le _, Nat.zero_le _⟩ hf (fun r2 σ3 _ hf H locs hw => ?_)
  refine lv_istore (lv' := [(4, .int (mI r2)), (3, .int (mI y1)), (0, .ref (ad 77)), (1, .ref (ad 1)), (2, .int (mI x2))]) hx hb dX4_readBox_12 hl (by decide) rfl (fun ls hl => ?_)
  refine lv_aload_n hx hb dX4_readBox_14 rfl (lv_at hl 3 rfl) ?_
  refine lv_iload_n hx hb dX4_readBox_15 rfl (lv_at hl 1 rfl) ?_
  refine lv_iconst (v := mI 1) hx hb dX4_readBox_16 rfl ?_
  refine r_iadd X dX4_readBox_17 ?_
  refine r_cvi (rest := []) [.int (mI (y1 + 1))] X hw (fun ra σa h => c_X7_at l D cy ad bs F (y1 + 1) σ3 ra σa  h) sh_1 rfl (by decide) rfl km_X7_at kv_X7_at lm_X4_64 dX4_readBox_18 hl.1 rfl rfl (Nat.le_of_ble_eq_true rfl) ⟨by decide, by decide⟩ ⟨Nat.zero_le _, Nat.zero_le _⟩ hf (fun r4 σ5 _ hf H locs hw => ?_)
  refine lv_istore (lv' := [(5, .int (mI r4)), (4, .int (mI r2)), (3, .int (mI y1)), (0, .ref (ad 77)), (1, .ref (ad 1)), (2, .int (mI x2))]) hx hb dX4_readBox_21 hl (by decide) rfl (fun ls hl => ?_)
  refine lv_aload_n hx hb dX4_readBox_23 rfl (lv_at hl 3 rfl) ?_
  refine r_getr 79 X hw sh_77 fd_4_2 rfl rfl lf_X4_26 dX4_readBox_24 ?_
  refine r_getp X hw sh_79 fd_10_3 rfl lf_X4_43 dX4_readBox_27 hf (fun hg6 hf => ?_)
  refine lv_iload hx hb dX4_readBox_30 (lv_at hl 1 rfl) ?_
  refine lv_iload hx hb dX4_readBox_32 (lv_at hl 0 rfl) ?_
  refine r_cvi (rest := []) [.int (mI r2), .int (mI r4)] X hw (fun ra σa h => c_X5_hasCell l D cy ad bs F (σ5 79 3).toNat r2 r4 σ5 ra σa (mPlan_z hg6) h) (mPlan_z hg6).1 rfl (by decide) rfl km_X5_hasCell kv_X5_hasCell lm_X4_78 dX4_readBox_34 hl.1 rfl rfl (Nat.le_of_ble_eq_true rfl) ⟨by decide, by decide⟩ ⟨Nat.zero_le _, Nat.zero_le _⟩ hf (fun r7 σ8 _ hf H locs hw => ?_)
  refine r_if_eq (tgt := 59) X dX4_readBox_37 (by decide) hf (fun hc hf => ?_) (fun hc hf => ?_)
  · exact w_X4_readBox_b59 X hw (lv_sub hl [3, 4] rfl) hf
  · refine lv_aload_n hx hb dX4_readBox_40 rfl (lv_at hl 3 rfl) ?_
    refine r_getr 79 X hw sh_77 fd_4_2 rfl rfl lf_X4_26 dX4_readBox_41 ?_
    refine r_getr 80 X hw sh_79 fd_10_0 rfl rfl lf_X4_82 dX4_readBox_44 ?_
    refine lv_iload_n hx hb dX4_readBox_47 rfl (lv_at hl 5 rfl) ?_
    refine lv_iload hx hb dX4_readBox_48 (lv_at hl 1 rfl) ?_
    refine lv_iload hx hb dX4_readBox_50 (lv_at hl 0 rfl) ?_
    refine r_csi (rest := []) [.ref (ad 80), .int (mI x2), .int (mI r2), .int (mI r4)] X hw (fun ra σa h => c_X10_boxIn l D cy ad bs F 80 60 x2 r2 r4 σ8 ra σa sh_80 h) km_X10_boxIn ks_X10_boxIn lm_X4_85 dX4_readBox_52 hl.1 rfl rfl (Nat.le_of_ble_eq_true rfl) ⟨by decide, by decide⟩ ⟨Nat.zero_le _, Nat.zero_le _⟩ hf (fun r9 σ10 _ hf H locs hw => ?_)
    refine lv_iconst (v := mI (-1)) hx hb dX4_readBox_55 rfl ?_
    refine r_icmp_eq (tgt := 61) X dX4_readBox_56 (by decide) hf (fun hc hf => ?_) (fun hc hf => ?_)
    · refine lv_aload_n hx hb dX4_readBox_61 rfl (lv_at hl 3 rfl) ?_
      refine r_getr 79 X hw sh_77 fd_4_2 rfl rfl lf_X4_26 dX4_readBox_62 ?_
      refine lv_iload_n hx hb dX4_readBox_65 rfl (lv_at hl 5 rfl) ?_
      refine lv_iconst (v := mI 0) hx hb dX4_readBox_66 rfl ?_
      refine lv_iload hx hb dX4_readBox_67 (lv_at hl 1 rfl) ?_
      refine r_cvv (rest := []) [.int (mI x2), .int (mI 0), .int (mI r2)] X hw (fun ra σa h => c_X10_set l D cy ad bs F 79 x2 0 r2 σ10 ra σa sh_w79 h) sh_79 rfl (by decide) rfl km_X10_set kv_X10_set lm_X4_89 dX4_readBox_69 hl.1 rfl rfl (Nat.le_of_ble_eq_true rfl) ⟨by decide, by decide⟩ ⟨Nat.zero_le _, Nat.zero_le _⟩ hf (fun r11 σ12 _ hf H locs hw => ?_)
      refine lv_aload_n hx hb dX4_readBox_72 rfl (lv_at hl 3 rfl) ?_
      refine r_getr 79 X hw sh_77 fd_4_2 rfl rfl lf_X4_26 dX4_readBox_73 ?_
      refine lv_iload_n hx hb dX4_readBox_76 rfl (lv_at hl 5 rfl) ?_
      refine lv_iconst (v := mI 1) hx hb dX4_readBox_77 rfl ?_
      refine lv_iload hx hb dX4_readBox_78 (lv_at hl 0 rfl) ?_
      refine r_cvv (rest := []) [.int (mI x2), .int (mI 1), .int (mI r4)] X hw (fun ra σa h => c_X10_set l D cy ad bs F 79 x2 1 r4 σ12 ra σa sh_w79 h) sh_79 rfl (by decide) rfl km_X10_set kv_X10_set lm_X4_89 dX4_readBox_80 hl.1 rfl rfl (Nat.le_of_ble_eq_true rfl) ⟨by decide, by decide⟩ ⟨Nat.zero_le _, Nat.zero_le _⟩ hf (fun r13 σ14 _ hf H locs hw => ?_)
      refine lv_aload_n hx hb dX4_readBox_83 rfl (lv_at hl 3 rfl) ?_
      refine r_getr 79 X hw sh_77 fd_4_2 rfl rfl lf_X4_26 dX4_readBox_84 ?_
      refine lv_iload_n hx hb dX4_readBox_87 rfl (lv_at hl 5 rfl) ?_
      refine lv_iconst (v := mI 2) hx hb dX4_readBox_88 rfl ?_
      refine lv_aload_n hx hb dX4_readBox_89 rfl (lv_at hl 4 rfl) ?_
      refine lv_iload_n hx hb dX4_readBox_90 rfl (lv_at hl 2 rfl) ?_
      refine lv_iconst (v := mI 2) hx hb dX4_readBox_91 rfl ?_
      refine r_iadd X dX4_readBox_92 ?_
      refine r_cvi (rest := [.int (mI 2), .int (mI x2), .ref (ad 79)]) [.int (mI (y1 + 2))] X hw (fun ra σa h => c_X7_at l D cy ad bs F (y1 + 2) σ14 ra σa  h) sh_1 rfl (by decide) rfl km_X7_at kv_X7_at lm_X4_64 dX4_readBox_93 hl.1 rfl rfl (Nat.le_of_ble_eq_true rfl) ⟨by decide, by decide⟩ ⟨Nat.zero_le _, Nat.zero_le _⟩ hf (fun r15 σ16 _ hf H locs hw => ?_)
      refine r_cvv (rest := []) [.int (mI x2), .int (mI 2), .int (mI r15)] X hw (fun ra σa h => c_X10_set l D cy ad bs F 79 x2 2 r15 σ16 ra σa sh_w79 h) sh_79 rfl (by decide) rfl km_X10_set kv_X10_set lm_X4_89 dX4_readBox_96 hl.1 rfl rfl (Nat.le_of_ble_eq_true rfl) ⟨by decide, by decide⟩ ⟨Nat.zero_le _, Nat.zero_le _⟩ hf (fun r17 σ18 _ hf H locs hw => ?_)
      refine lv_aload_n hx hb dX4_readBox_99 rfl (lv_at hl 3 rfl) ?_
      refine r_getr 79 X hw sh_77 fd_4_2 rfl rfl lf_X4_26 dX4_readBox_100 ?_
      refine lv_iload_n hx hb dX4_readBox_103 rfl (lv_at hl 5 rfl) ?_
      refine lv_iconst (v := mI 3) hx hb dX4_readBox_104 rfl ?_
      refine lv_aload_n hx hb dX4_readBox_105 rfl (lv_at hl 4 rfl) ?_
      refine lv_iload_n hx hb dX4_readBox_106 rfl (lv_at hl 2 rfl) ?_
      refine lv_iconst (v := mI 3) hx hb dX4_readBox_107 rfl ?_
      refine r_iadd X dX4_readBox_108 ?_
      refine r_cvi (rest := [.int (mI 3), .int (mI x2), .ref (ad 79)]) [.int (mI (y1 + 3))] X hw (fun ra σa h => c_X7_pairAt l D cy ad bs F (y1 + 3) σ18 ra σa  h) sh_1 rfl (by decide) rfl km_X7_pairAt kv_X7_pairAt lm_X4_71 dX4_readBox_109 hl.1 rfl rfl (Nat.le_of_ble_eq_true rfl) ⟨by decide, by decide⟩ ⟨Nat.zero_le _, Nat.zero_le _⟩ hf (fun r19 σ20 _ hf H locs hw => ?_)
      refine r_cvv (rest := []) [.int (mI x2), .int (mI 3), .int (mI r19)] X hw (fun ra σa h => c_X10_set l D cy ad bs F 79 x2 3 r19 σ20 ra σa sh_w79 h) sh_79 rfl (by decide) rfl km_X10_set kv_X10_set lm_X4_89 dX4_readBox_112 hl.1 rfl rfl (Nat.le_of_ble_eq_true rfl) ⟨by decide, by decide⟩ ⟨Nat.zero_le _, Nat.zero_le _⟩ hf (fun r21 σ22 _ hf H locs hw => ?_)
      refine lv_aload_n hx hb dX4_readBox_115 rfl (lv_at hl 3 rfl) ?_
      refine r_getr 79 X hw sh_77 fd_4_2 rfl rfl lf_X4_26 dX4_readBox_116 ?_
      refine lv_iload_n hx hb dX4_readBox_119 rfl (lv_at hl 5 rfl) ?_
      refine lv_iconst (v := mI 4) hx hb dX4_readBox_120 rfl ?_
      refine lv_aload_n hx hb dX4_readBox_121 rfl (lv_at hl 4 rfl) ?_
      refine lv_iload_n hx hb dX4_readBox_122 rfl (lv_at hl 2 rfl) ?_
      refine lv_iconst (v := mI 5) hx hb dX4_readBox_123 rfl ?_
      refine r_iadd X dX4_readBox_124 ?_
      refine r_cvi (rest := [.int (mI 4), .int (mI x2), .ref (ad 79)]) [.int (mI (y1 + 5))] X hw (fun ra σa h => c_X7_at l D cy ad bs F (y1 + 5) σ22 ra σa  h) sh_1 rfl (by decide) rfl km_X7_at kv_X7_at lm_X4_64 dX4_readBox_125 hl.1 rfl rfl (Nat.le_of_ble_eq_true rfl) ⟨by decide, by decide⟩ ⟨Nat.zero_le _, Nat.zero_le _⟩ hf (fun r23 σ24 _ hf H locs hw => ?_)
      refine r_cvv (rest := []) [.int (mI x2), .int (mI 4), .int (mI r23)] X hw (fun ra σa h => c_X10_set l D cy ad bs F 79 x2 4 r23 σ24 ra σa sh_w79 h) sh_79 rfl (by decide) rfl km_X10_set kv_X10_set lm_X4_89 dX4_readBox_128 hl.1 rfl rfl (Nat.le_of_ble_eq_true rfl) ⟨by decide, by decide⟩ ⟨Nat.zero_le _, Nat.zero_le _⟩ hf (fun r25 σ26 _ hf H locs hw => ?_)
      refine lv_aload_n hx hb dX4_readBox_131 rfl (lv_at hl 3 rfl) ?_
      refine r_getr 79 X hw sh_77 fd_4_2 rfl rfl lf_X4_26 dX4_readBox_132 ?_
      refine lv_iload_n hx hb dX4_readBox_135 rfl (lv_at hl 5 rfl) ?_
      refine lv_bipush (v := mI 8) hx hb dX4_readBox_136 (by decide) ?_
      refine lv_aload_n hx hb dX4_readBox_138 rfl (lv_at hl 4 rfl) ?_
      refine lv_iload_n hx hb dX4_readBox_139 rfl (lv_at hl 2 rfl) ?_
      refine lv_bipush (v := mI 6) hx hb dX4_readBox_140 (by decide) ?_
      refine r_iadd X dX4_readBox_142 ?_
      refine r_cvi (rest := [.int (mI 8), .int (mI x2), .ref (ad 79)]) [.int (mI (y1 + 6))] X hw (fun ra σa h => c_X7_pairAt l D cy ad bs F (y1 + 6) σ26 ra σa  h) sh_1 rfl (by decide) rfl km_X7_pairAt kv_X7_pairAt lm_X4_71 dX4_readBox_143 hl.1 rfl rfl (Nat.le_of_ble_eq_true rfl) ⟨by decide, by decide⟩ ⟨Nat.zero_le _, Nat.zero_le _⟩ hf (fun r27 σ28 _ hf H locs hw => ?_)
      refine r_cvv (rest := []) [.int (mI x2), .int (mI 8), .int (mI r27)] X hw (fun ra σa h => c_X10_set l D cy ad bs F 79 x2 8 r27 σ28 ra σa sh_w79 h) sh_79 rfl (by decide) rfl km_X10_set kv_X10_set lm_X4_89 dX4_readBox_146 hl.1 rfl rfl (Nat.le_of_ble_eq_true rfl) ⟨by decide, by decide⟩ ⟨Nat.zero_le _, Nat.zero_le _⟩ hf (fun r29 σ30 _ hf H locs hw => ?_)
      refine lv_aload_n hx hb dX4_readBox_149 rfl (lv_at hl 3 rfl) ?_
      refine r_getr 79 X hw sh_77 fd_4_2 rfl rfl lf_X4_26 dX4_readBox_150 ?_
      refine lv_iload_n hx hb dX4_readBox_153 rfl (lv_at hl 5 rfl) ?_
      refine lv_iconst (v := mI 2) hx hb dX4_readBox_154 rfl ?_
      refine r_cvi (rest := []) [.int (mI x2), .int (mI 2)] X hw (fun ra σa h => c_X10_of l D cy ad bs F 79 x2 2 σ30 ra σa sh_w79 h) sh_79 rfl (by decide) rfl km_X10_of kv_X10_of lm_X4_50 dX4_readBox_155 hl.1 rfl rfl (Nat.le_of_ble_eq_true rfl) ⟨by decide, by decide⟩ ⟨Nat.zero_le _, Nat.zero_le _⟩ hf (fun r31 σ32 _ hf H locs hw => ?_)
      refine lv_iconst (v := mI 3) hx hb dX4_readBox_158 rfl ?_
      refine r_icmp_gt (tgt := 211) X dX4_readBox_159 (by decide) hf (fun hc hf => ?_) (fun hc hf => ?_)
      · exact w_X4_readBox_b211 X hw (lv_sub hl [3, 4] rfl) hf
      · refine lv_aload_n hx hb dX4_readBox_162 rfl (lv_at hl 3 rfl) ?_
        refine r_getr 79 X hw sh_77 fd_4_2 rfl rfl lf_X4_26 dX4_readBox_163 ?_
        refine lv_iload_n hx hb dX4_readBox_166 rfl (lv_at hl 5 rfl) ?_
        refine lv_iconst (v := mI 3) hx hb dX4_readBox_167 rfl ?_
        refine r_cvi (rest := []) [.int (mI x2), .int (mI 3)] X hw (fun ra σa h => c_X10_of l D cy ad bs F 79 x2 3 σ32 ra σa sh_w79 h) sh_79 rfl (by decide) rfl km_X10_of kv_X10_of lm_X4_50 dX4_readBox_168 hl.1 rfl rfl (Nat.le_of_ble_eq_true rfl) ⟨by decide, by decide⟩ ⟨Nat.zero_le _, Nat.zero_le _⟩ hf (fun r33 σ34 _ hf H locs hw => ?_)
        refine lv_sipush (v := mI 999) hx hb dX4_readBox_171 (by decide) ?_
        refine r_icmp_gt (tgt := 211) X dX4_readBox_174 (by decide) hf (fun hc hf => ?_) (fun hc hf => ?_)
        · exact w_X4_readBox_b211 X hw (lv_sub hl [3, 4] rfl) hf
        · refine lv_aload_n hx hb dX4_readBox_177 rfl (lv_at hl 3 rfl) ?_
          refine r_getr 79 X hw sh_77 fd_4_2 rfl rfl lf_X4_26 dX4_readBox_178 ?_
          refine lv_iload_n hx hb dX4_readBox_181 rfl (lv_at hl 5 rfl) ?_
          refine lv_iconst (v := mI 4) hx hb dX4_readBox_182 rfl ?_
          refine r_cvi (rest := []) [.int (mI x2), .int (mI 4)] X hw (fun ra σa h => c_X10_of l D cy ad bs F 79 x2 4 σ34 ra σa sh_w79 h) sh_79 rfl (by decide) rfl km_X10_of kv_X10_of lm_X4_50 dX4_readBox_183 hl.1 rfl rfl (Nat.le_of_ble_eq_true rfl) ⟨by decide, by decide⟩ ⟨Nat.zero_le _, Nat.zero_le _⟩ hf (fun r35 σ36 _ hf H locs hw => ?_)
          refine lv_bipush (v := mI 99) hx hb dX4_readBox_186 (by decide) ?_
          refine r_icmp_gt (tgt := 211) X dX4_readBox_188 (by decide) hf (fun hc hf => ?_) (fun hc hf => ?_)
          · exact w_X4_readBox_b211 X hw (lv_sub hl [3, 4] rfl) hf
          · refine lv_aload_n hx hb dX4_readBox_191 rfl (lv_at hl 3 rfl) ?_
            refine r_getr 79 X hw sh_77 fd_4_2 rfl rfl lf_X4_26 dX4_readBox_192 ?_
            refine lv_iload_n hx hb dX4_readBox_195 rfl (lv_at hl 5 rfl) ?_
            refine lv_bipush (v := mI 8) hx hb dX4_readBox_196 (by decide) ?_
            refine r_cvi (rest := []) [.int (mI x2), .int (mI 8)] X hw (fun ra σa h => c_X10_of l D cy ad bs F 79 x2 8 σ36 ra σa sh_w79 h) sh_79 rfl (by decide) rfl km_X10_of kv_X10_of lm_X4_50 dX4_readBox_198 hl.1 rfl rfl (Nat.le_of_ble_eq_true rfl) ⟨by decide, by decide⟩ ⟨Nat.zero_le _, Nat.zero_le _⟩ hf (fun r37 σ38 _ hf H locs hw => ?_)
            refine lv_sipush (v := mI 2520) hx hb dX4_readBox_201 (by decide) ?_
            refine r_icmp_ge (tgt := 211) X dX4_readBox_204 (by decide) hf (fun hc hf => ?_) (fun hc hf => ?_)
            · exact w_X4_readBox_b211 X hw (lv_sub hl [3, 4] rfl) hf
            · refine lv_iconst (v := mI 1) hx hb dX4_readBox_207 rfl ?_
              refine lv_goto (tgt := 212) hx hb dX4_readBox_208 (by decide) ?_
              exact w_X4_readBox_b212 X hw (lv_sub hl [3, 4] rfl) hf
    · exact w_X4_readBox_b59 X hw (lv_sub hl [3, 4] rfl) hf
def g_X4_readInto_b182 (F : Nat) (w1 : Nat)  (x5 : Int) (σ : mMem) : mRs := if mw x5 = 0 ∨ mw x5 = 1 then some (x5, σ) else none
set_option maxRecDepth 100000 in
set_option maxHeartbeats 4000000 in
theorem w_X4_readInto_b182 {p : Program} {l : Launch} {e : Env} {s : State} {m : MethodId} {args : Array Value} {below : List Frame} {meth : Method} {c : Code} {D : va_G} {cy : Nat → ClassId} {ad : Nat → Nat} {bs : Nat} {F : Nat} {w1 : Nat} (X : mCx p m c cX4_readInto 7 s args RX4 meth D cy (some .boolean)) (hw1 : mWorld w1) {r : Int} {σ' : mMem}   {x5 : Int} {σ : mMem} {H : Heap} {locs : List Loc} {ls : Array Slot} (hw : mWd D cy ad bs true mN σ s.heap H locs) (hl : lv_has ls 7 [(0, .ref (ad 77)), (1, .ref (ad w1)), (2, .ref (ad 1)), (5, .int (mI x5))]) (hf : g_X4_readInto_b182 F w1 x5 σ = some (r, σ')) : mGi p l e 4 s m args below meth c D cy ad bs r σ' H locs (F0 m 182 ls []) := by
  obtain ⟨⟨hx, hb, -, -, -⟩, -⟩ := id X
  unfold g_X4_readInto_b182 at hf
  refine lv_iload hx hb dX4_readInto_182 (lv_at hl 3 rfl) ?_
  exact r_zret X hw dX4_readInto_184 hf
def g_X4_readInto_b169 (F : Nat) (w1 : Nat)  (x5 : Int) (σ : mMem) : mRs := if mw x5 = 0 then (g_X4_readInto_b182 F w1 x5 σ) else (mob (g_X10_copyFrom F w1 79 σ) (fun r520 σ521 => g_X4_readInto_b182 F w1 x5 σ521))
set_option maxRecDepth 100000 in
set_option maxHeartbeats 4000000 in
theorem w_X4_readInto_b169 {p : Program} {l : Launch} {e : Env} {s : State} {m : MethodId} {args : Array Value} {below : List Frame} {meth : Method} {c : Code} {D : va_G} {cy : Nat → ClassId} {ad : Nat → Nat} {bs : Nat} {F : Nat} {w1 : Nat} (X : mCx p m c cX4_readInto 7 s args RX4 meth D cy (some .boolean)) (hw1 : mWorld w1) {r : Int} {σ' : mMem}   {x5 : Int} {σ : mMem} {H : Heap} {locs : List Loc} {ls : Array Slot} (hw : mWd D cy ad bs true mN σ s.heap H locs) (hl : lv_has ls 7 [(0, .ref (ad 77)), (1, .ref (ad w1)), (2, .ref (ad 1)), (5, .int (mI x5))]) (hf : g_X4_readInto_b169 F w1 x5 σ = some (r, σ')) : mGi p l e 4 s m args below meth c D cy ad bs r σ' H locs (F0 m 169 ls []) := by
  obtain ⟨⟨hx, hb, -, -, -⟩, -⟩ := id X
  unfold g_X4_readInto_b169 at hf
  refine lv_iload hx hb dX4_readInto_169 (lv_at hl 3 rfl) ?_
  refine r_if_eq (tgt := 182) X dX4_readInto_171 (by decide) hf (fun hc hf => ?_) (fun hc hf => ?_)
  · exact w_X4_readInto_b182 X hw1 hw (lv_sub hl [0, 1, 2, 3] rfl) hf
  · refine lv_aload_n hx hb dX4_readInto_174 rfl (lv_at hl 1 rfl) ?_
    refine lv_aload_n hx hb dX4_readInto_175 rfl (lv_at hl 0 rfl) ?_
    refine r_getr 79 X hw sh_77 fd_4_2 rfl rfl lf_X4_26 dX4_readInto_176 ?_
    refine r_cvv (rest := []) [.ref (ad 79)] X hw (fun ra σa h => c_X10_copyFrom l D cy ad bs F w1 79 σ ra σa hw1 sh_w79 h) hw1.1 rfl (by decide) rfl km_X10_copyFrom kv_X10_copyFrom lm_X4_67 dX4_readInto_179 hl.1 rfl rfl (Nat.le_of_ble_eq_true rfl) ⟨by decide, by decide⟩ ⟨Nat.zero_le _, Nat.zero_le _⟩ hf (fun r520 σ521 _ hf H locs hw => ?_)
    exact w_X4_readInto_b182 X hw1 hw (lv_sub hl [0, 1, 2, 3] rfl) hf
def g_X4_readInto_h137 (F : Nat) (w1 : Nat)  : Nat → Int → Int → mMem → mRs
  | 0, _, _, _ => none
  | n + 1, x5, x6, σ => if mw x5 = 0 then (g_X4_readInto_b169 F w1 x5 σ) else (if σ w1 3 = 3 ∨ σ w1 3 = 8 then if mw (σ (σ w1 3).toNat 11) ≤ mw x6 then (g_X4_readInto_b169 F w1 x5 σ) else (mob (g_X4_readBox F x6 σ) (fun r418 σ419 => (g_X4_readInto_h137 F w1 n) r418 (x6 + 1) σ419)) else none)
set_option maxRecDepth 100000 in
set_option maxHeartbeats 4000000 in
theorem w_X4_readInto_h137 {p : Program} {l : Launch} {e : Env} {s : State} {m : MethodId} {args : Array Value} {below : List Frame} {meth : Method} {c : Code} {D : va_G} {cy : Nat → ClassId} {ad : Nat → Nat} {bs : Nat} {F : Nat} {w1 : Nat} (X : mCx p m c cX4_readInto 7 s args RX4 meth D cy (some .boolean)) (hw1 : mWorld w1) {r : Int} {σ' : mMem}   (n : Nat) : ∀ {x5 x6 : Int} {σ : mMem} {H : Heap} {locs : List Loc} {ls : Array Slot} (_ : mWd D cy ad bs true mN σ s.heap H locs) (_ : lv_has ls 7 [(0, .ref (ad 77)), (1, .ref (ad w1)), (2, .ref (ad 1)), (5, .int (mI x5)), (6, .int (mI x6))]) (_ : g_X4_readInto_h137 F w1 n x5 x6 σ = some (r, σ')), mGi p l e 4 s m args below meth c D cy ad bs r σ' H locs (F0 m 137 ls []) := by
  obtain ⟨⟨hx, hb, -, -, -⟩, -⟩ := id X
  induction n with
  | zero =>
    intro x5 x6 σ H locs ls hw hl hf
    unfold g_X4_readInto_h137 at hf
    cases hf
  | succ n ih =>
    have hk137 : ∀ (x5 x6 : Int) (σ : mMem) (H : Heap) (locs : List Loc) (ls : Array Slot), mWd D cy ad bs true mN σ s.heap H locs → lv_has ls 7 [(0, .ref (ad 77)), (1, .ref (ad w1)), (2, .ref (ad 1)), (5, .int (mI x5)), (6, .int (mI x6))] → g_X4_readInto_h137 F w1 n x5 x6 σ = some (r, σ') → mGi p l e 4 s m args below meth c D cy ad bs r σ' H locs (F0 m 137 ls []) := fun x5 x6 σ H locs ls hw hl hf => ih hw hl hf
    intro x5 x6 σ H locs ls hw hl hf
    unfold g_X4_readInto_h137 at hf
    refine lv_iload hx hb dX4_readInto_137 (lv_at hl 3 rfl) ?_
    refine r_if_eq (tgt := 169) X dX4_readInto_139 (by decide) hf (fun hc hf => ?_) (fun hc hf => ?_)
    · exact w_X4_readInto_b169 X hw1 hw (lv_sub hl [0, 1, 2, 3] rfl) hf
    · refine lv_iload hx hb dX4_readInto_142 (lv_at hl 4 rfl) ?_
      refine lv_aload_n hx hb dX4_readInto_144 rfl (lv_at hl 1 rfl) ?_
      refine r_getp X hw hw1.1 fd_10_3 rfl lf_X4_43 dX4_readInto_145 hf (fun hg417 hf => ?_)
      refine r_geti X hw (mPlan_z hg417).1 fd_5_11 rfl lf_X4_47 dX4_readInto_148 ?_
      refine r_icmp_ge (tgt := 169) X dX4_readInto_151 (by decide) hf (fun hc hf => ?_) (fun hc hf => ?_)
      · exact w_X4_readInto_b169 X hw1 hw (lv_sub hl [0, 1, 2, 3] rfl) hf
      · refine lv_aload_n hx hb dX4_readInto_154 rfl (lv_at hl 0 rfl) ?_
        refine lv_aload_n hx hb dX4_readInto_155 rfl (lv_at hl 2 rfl) ?_
        refine lv_iload hx hb dX4_readInto_156 (lv_at hl 4 rfl) ?_
        refine r_cvi (rest := []) [.ref (ad 1), .int (mI x6)] X hw (fun ra σa h => c_X4_readBox l D cy ad bs F x6 σ ra σa  h) sh_77 rfl (by decide) rfl km_X4_readBox kv_X4_readBox lm_X4_74 dX4_readInto_158 hl.1 rfl rfl (Nat.le_of_ble_eq_true rfl) ⟨by decide, by decide⟩ ⟨Nat.zero_le _, Nat.zero_le _⟩ hf (fun r418 σ419 _ hf H locs hw => ?_)
        refine lv_istore (lv' := [(5, .int (mI r418)), (0, .ref (ad 77)), (1, .ref (ad w1)), (2, .ref (ad 1)), (6, .int (mI x6))]) hx hb dX4_readInto_161 hl (by decide) rfl (fun ls hl => ?_)
        refine lv_iinc (v := mI (x6 + 1)) (lv' := [(6, .int (mI (x6 + 1))), (5, .int (mI r418)), (0, .ref (ad 77)), (1, .ref (ad w1)), (2, .ref (ad 1))]) hx hb dX4_readInto_163 hl (k := 4) rfl (mI_add _ _) (by decide) rfl (fun ls hl => ?_)
        refine lv_goto (tgt := 137) hx hb dX4_readInto_166 (by decide) ?_
        exact hk137 r418 (x6 + 1) σ419 _ _ _ hw (lv_sub hl [2, 3, 4, 1, 0] rfl) hf
def g_X4_readInto_b132 (F : Nat) (w1 : Nat)  (t0 : Int) (σ : mMem) : mRs := g_X4_readInto_h137 F w1 F t0 0 σ
set_option maxRecDepth 100000 in
set_option maxHeartbeats 4000000 in
theorem w_X4_readInto_b132 {p : Program} {l : Launch} {e : Env} {s : State} {m : MethodId} {args : Array Value} {below : List Frame} {meth : Method} {c : Code} {D : va_G} {cy : Nat → ClassId} {ad : Nat → Nat} {bs : Nat} {F : Nat} {w1 : Nat} (X : mCx p m c cX4_readInto 7 s args RX4 meth D cy (some .boolean)) (hw1 : mWorld w1) {r : Int} {σ' : mMem}   {t0 : Int} {σ : mMem} {H : Heap} {locs : List Loc} {ls : Array Slot} (hw : mWd D cy ad bs true mN σ s.heap H locs) (hl : lv_has ls 7 [(0, .ref (ad 77)), (1, .ref (ad w1)), (2, .ref (ad 1))]) (hf : g_X4_readInto_b132 F w1 t0 σ = some (r, σ')) : mGi p l e 4 s m args below meth c D cy ad bs r σ' H locs (F0 m 132 ls [.int (mI t0)]) := by
  obtain ⟨⟨hx, hb, -, -, -⟩, -⟩ := id X
  unfold g_X4_readInto_b132 at hf
  refine lv_istore (lv' := [(5, .int (mI t0)), (0, .ref (ad 77)), (1, .ref (ad w1)), (2, .ref (ad 1))]) hx hb dX4_readInto_132 hl (by decide) rfl (fun ls hl => ?_)
  refine lv_iconst (v := mI 0) hx hb dX4_readInto_134 rfl ?_
  refine lv_istore (lv' := [(6, .int (mI 0)), (5, .int (mI t0)), (0, .ref (ad 77)), (1, .ref (ad w1)), (2, .ref (ad 1))]) hx hb dX4_readInto_135 hl (by decide) rfl (fun ls hl => ?_)
  exact w_X4_readInto_h137 X hw1 _ hw (lv_sub hl [2, 3, 4, 1, 0] rfl) hf
def g_X4_readInto_b131 (F : Nat) (w1 : Nat)  (σ : mMem) : mRs := g_X4_readInto_b132 F w1 0 σ
set_option maxRecDepth 100000 in
set_option maxHeartbeats 4000000 in
theorem w_X4_readInto_b131 {p : Program} {l : Launch} {e : Env} {s : State} {m : MethodId} {args : Array Value} {below : List Frame} {meth : Method} {c : Code} {D : va_G} {cy : Nat → ClassId} {ad : Nat → Nat} {bs : Nat} {F : Nat} {w1 : Nat} (X : mCx p m c cX4_readInto 7 s args RX4 meth D cy (some .boolean)) (hw1 : mWorld w1) {r : Int} {σ' : mMem}    {σ : mMem} {H : Heap} {locs : List Loc} {ls : Array Slot} (hw : mWd D cy ad bs true mN σ s.heap H locs) (hl : lv_has ls 7 [(0, .ref (ad 77)), (1, .ref (ad w1)), (2, .ref (ad 1))]) (hf : g_X4_readInto_b131 F w1  σ = some (r, σ')) : mGi p l e 4 s m args below meth c D cy ad bs r σ' H locs (F0 m 131 ls []) := by
  obtain ⟨⟨hx, hb, -, -, -⟩, -⟩ := id X
  unfold g_X4_readInto_b131 at hf
  refine lv_iconst (v := mI 0) hx hb dX4_readInto_131 rfl ?_
  exact w_X4_readInto_b132 X hw1 hw (lv_sub hl [0, 1, 2] rfl) hf
def g_X4_readInto_h33 (F : Nat) (w1 : Nat)  : Nat → Int → Int → Int → mMem → mRs
  | 0, _, _, _, _ => none
  | n + 1, x3, x4, x5, σ => if mw x3 ≤ mw x5 then (mob (g_X7_at F x3 σ) (fun r103 σ104 => if mw x4 = mw r103 then (mob (g_X10_copyFrom F 79 w1 σ104) (fun r105 σ106 => mob (g_X7_pairAt F 0 σ106) (fun r107 σ108 => mlm (mup σ108 79 4 r107) (fun σ109 => mob (g_X7_at F 2 σ109) (fun r110 σ111 => mlm (mup σ111 79 5 r110) (fun σ112 => if mw 999 < mw (σ112 79 4) then (g_X4_readInto_b131 F w1 σ112) else (if mw 9 < mw (σ112 79 5) then (g_X4_readInto_b131 F w1 σ112) else (g_X4_readInto_b132 F w1 1 σ112)))))))) else (if mw 0 = 0 ∨ mw 0 = 1 then some (0, σ104) else none))) else (mob (g_X7_at F x5 σ) (fun r113 σ114 => mob (g_X4_checkedBy F x4 r113 σ114) (fun r115 σ116 => (g_X4_readInto_h33 F w1 n) x3 r115 (x5 + 1) σ116)))
set_option maxRecDepth 100000 in
set_option maxHeartbeats 4000000 in
theorem w_X4_readInto_h33 {p : Program} {l : Launch} {e : Env} {s : State} {m : MethodId} {args : Array Value} {below : List Frame} {meth : Method} {c : Code} {D : va_G} {cy : Nat → ClassId} {ad : Nat → Nat} {bs : Nat} {F : Nat} {w1 : Nat} (X : mCx p m c cX4_readInto 7 s args RX4 meth D cy (some .boolean)) (hw1 : mWorld w1) {r : Int} {σ' : mMem}   (n : Nat) : ∀ {x3 x4 x5 : Int} {σ : mMem} {H : Heap} {locs : List Loc} {ls : Array Slot} (_ : mWd D cy ad bs true mN σ s.heap H locs) (_ : lv_has ls 7 [(0, .ref (ad 77)), (1, .ref (ad w1)), (2, .ref (ad 1)), (3, .int (mI x3)), (4, .int (mI x4)), (5, .int (mI x5))]) (_ : g_X4_readInto_h33 F w1 n x3 x4 x5 σ = some (r, σ')), mGi p l e 4 s m args below meth c D cy ad bs r σ' H locs (F0 m 33 ls []) := by
  obtain ⟨⟨hx, hb, -, -, -⟩, -⟩ := id X
  induction n with
  | zero =>
    intro x3 x4 x5 σ H locs ls hw hl hf
    unfold g_X4_readInto_h33 at hf
    cases hf
  | succ n ih =>
    have hk33 : ∀ (x3 x4 x5 : Int) (σ : mMem) (H : Heap) (locs : List Loc) (ls : Array Slot), mWd D cy ad bs true mN σ s.heap H locs → lv_has ls 7 [(0, .ref (ad 77)), (1, .ref (ad w1)), (2, .ref (ad 1)), (3, .int (mI x3)), (4, .int (mI x4)), (5, .int (mI x5))] → g_X4_readInto_h33 F w1 n x3 x4 x5 σ = some (r, σ') → mGi p l e 4 s m args below meth c D cy ad bs r σ' H locs (F0 m 33 ls []) := fun x3 x4 x5 σ H locs ls hw hl hf => ih hw hl hf
    intro x3 x4 x5 σ H locs ls hw hl hf
    unfold g_X4_readInto_h33 at hf
    refine lv_iload hx hb dX4_readInto_33 (lv_at hl 5 rfl) ?_
    refine lv_iload_n hx hb dX4_readInto_35 rfl (lv_at hl 3 rfl) ?_
    refine r_icmp_ge (tgt := 58) X dX4_readInto_36 (by decide) hf (fun hc hf => ?_) (fun hc hf => ?_)
    · refine lv_iload hx hb dX4_readInto_58 (lv_at hl 4 rfl) ?_
      refine lv_aload_n hx hb dX4_readInto_60 rfl (lv_at hl 2 rfl) ?_
      refine lv_iload_n hx hb dX4_readInto_61 rfl (lv_at hl 3 rfl) ?_
      refine r_cvi (rest := [.int (mI x4)]) [.int (mI x3)] X hw (fun ra σa h => c_X7_at l D cy ad bs F x3 σ ra σa  h) sh_1 rfl (by decide) rfl km_X7_at kv_X7_at lm_X4_64 dX4_readInto_62 hl.1 rfl rfl (Nat.le_of_ble_eq_true rfl) ⟨by decide, by decide⟩ ⟨Nat.zero_le _, Nat.zero_le _⟩ hf (fun r103 σ104 _ hf H locs hw => ?_)
      refine r_icmp_eq (tgt := 70) X dX4_readInto_65 (by decide) hf (fun hc hf => ?_) (fun hc hf => ?_)
      · refine lv_aload_n hx hb dX4_readInto_70 rfl (lv_at hl 0 rfl) ?_
        refine r_getr 79 X hw sh_77 fd_4_2 rfl rfl lf_X4_26 dX4_readInto_71 ?_
        refine lv_aload_n hx hb dX4_readInto_74 rfl (lv_at hl 1 rfl) ?_
        refine r_cvv (rest := []) [.ref (ad w1)] X hw (fun ra σa h => c_X10_copyFrom l D cy ad bs F 79 w1 σ104 ra σa sh_w79 hw1 h) sh_79 rfl (by decide) rfl km_X10_copyFrom kv_X10_copyFrom lm_X4_67 dX4_readInto_75 hl.1 rfl rfl (Nat.le_of_ble_eq_true rfl) ⟨by decide, by decide⟩ ⟨Nat.zero_le _, Nat.zero_le _⟩ hf (fun r105 σ106 _ hf H locs hw => ?_)
        refine lv_aload_n hx hb dX4_readInto_78 rfl (lv_at hl 0 rfl) ?_
        refine r_getr 79 X hw sh_77 fd_4_2 rfl rfl lf_X4_26 dX4_readInto_79 ?_
        refine lv_aload_n hx hb dX4_readInto_82 rfl (lv_at hl 2 rfl) ?_
        refine lv_iconst (v := mI 0) hx hb dX4_readInto_83 rfl ?_
        refine r_cvi (rest := [.ref (ad 79)]) [.int (mI 0)] X hw (fun ra σa h => c_X7_pairAt l D cy ad bs F 0 σ106 ra σa  h) sh_1 rfl (by decide) rfl km_X7_pairAt kv_X7_pairAt lm_X4_71 dX4_readInto_84 hl.1 rfl rfl (Nat.le_of_ble_eq_true rfl) ⟨by decide, by decide⟩ ⟨Nat.zero_le _, Nat.zero_le _⟩ hf (fun r107 σ108 _ hf H locs hw => ?_)
        refine r_puti X hw sh_79 fd_10_4 fp_10_4 rfl rfl lf_X4_30 dX4_readInto_87 (fun H locs hw => ?_)
        refine r_mem hf hw (fun σ109 hw hf => ?_)
        refine lv_aload_n hx hb dX4_readInto_90 rfl (lv_at hl 0 rfl) ?_
        refine r_getr 79 X hw sh_77 fd_4_2 rfl rfl lf_X4_26 dX4_readInto_91 ?_
        refine lv_aload_n hx hb dX4_readInto_94 rfl (lv_at hl 2 rfl) ?_
        refine lv_iconst (v := mI 2) hx hb dX4_readInto_95 rfl ?_
        refine r_cvi (rest := [.ref (ad 79)]) [.int (mI 2)] X hw (fun ra σa h => c_X7_at l D cy ad bs F 2 σ109 ra σa  h) sh_1 rfl (by decide) rfl km_X7_at kv_X7_at lm_X4_64 dX4_readInto_96 hl.1 rfl rfl (Nat.le_of_ble_eq_true rfl) ⟨by decide, by decide⟩ ⟨Nat.zero_le _, Nat.zero_le _⟩ hf (fun r110 σ111 _ hf H locs hw => ?_)
        refine r_puti X hw sh_79 fd_10_5 fp_10_5 rfl rfl lf_X4_37 dX4_readInto_99 (fun H locs hw => ?_)
        refine r_mem hf hw (fun σ112 hw hf => ?_)
        refine lv_aload_n hx hb dX4_readInto_102 rfl (lv_at hl 0 rfl) ?_
        refine r_getr 79 X hw sh_77 fd_4_2 rfl rfl lf_X4_26 dX4_readInto_103 ?_
        refine r_geti X hw sh_79 fd_10_4 rfl lf_X4_30 dX4_readInto_106 ?_
        refine lv_sipush (v := mI 999) hx hb dX4_readInto_109 (by decide) ?_
        refine r_icmp_gt (tgt := 131) X dX4_readInto_112 (by decide) hf (fun hc hf => ?_) (fun hc hf => ?_)
        · exact w_X4_readInto_b131 X hw1 hw (lv_sub hl [0, 1, 2] rfl) hf
        · refine lv_aload_n hx hb dX4_readInto_115 rfl (lv_at hl 0 rfl) ?_
          refine r_getr 79 X hw sh_77 fd_4_2 rfl rfl lf_X4_26 dX4_readInto_116 ?_
          refine r_geti X hw sh_79 fd_10_5 rfl lf_X4_37 dX4_readInto_119 ?_
          refine lv_bipush (v := mI 9) hx hb dX4_readInto_122 (by decide) ?_
          refine r_icmp_gt (tgt := 131) X dX4_readInto_124 (by decide) hf (fun hc hf => ?_) (fun hc hf => ?_)
          · exact w_X4_readInto_b131 X hw1 hw (lv_sub hl [0, 1, 2] rfl) hf
          · refine lv_iconst (v := mI 1) hx hb dX4_readInto_127 rfl ?_
            refine lv_goto (tgt := 132) hx hb dX4_readInto_128 (by decide) ?_
            exact w_X4_readInto_b132 X hw1 hw (lv_sub hl [0, 1, 2] rfl) hf
      · refine lv_iconst (v := mI 0) hx hb dX4_readInto_68 rfl ?_
        exact r_zret X hw dX4_readInto_69 hf
    · refine lv_iload hx hb dX4_readInto_39 (lv_at hl 4 rfl) ?_
      refine lv_aload_n hx hb dX4_readInto_41 rfl (lv_at hl 2 rfl) ?_
      refine lv_iload hx hb dX4_readInto_42 (lv_at hl 5 rfl) ?_
      refine r_cvi (rest := [.int (mI x4)]) [.int (mI x5)] X hw (fun ra σa h => c_X7_at l D cy ad bs F x5 σ ra σa  h) sh_1 rfl (by decide) rfl km_X7_at kv_X7_at lm_X4_64 dX4_readInto_44 hl.1 rfl rfl (Nat.le_of_ble_eq_true rfl) ⟨by decide, by decide⟩ ⟨Nat.zero_le _, Nat.zero_le _⟩ hf (fun r113 σ114 _ hf H locs hw => ?_)
      refine r_csi (rest := []) [.int (mI x4), .int (mI r113)] X hw (fun ra σa h => c_X4_checkedBy l D cy ad bs F x4 r113 σ114 ra σa  h) km_X4_checkedBy ks_X4_checkedBy lm_X4_58 dX4_readInto_47 hl.1 rfl rfl (Nat.le_of_ble_eq_true rfl) ⟨by decide, by decide⟩ ⟨Nat.zero_le _, Nat.zero_le _⟩ hf (fun r115 σ116 _ hf H locs hw => ?_)
      refine lv_istore (lv' := [(4, .int (mI r115)), (0, .ref (ad 77)), (1, .ref (ad w1)), (2, .ref (ad 1)), (3, .int (mI x3)), (5, .int (mI x5))]) hx hb dX4_readInto_50 hl (by decide) rfl (fun ls hl => ?_)
      refine lv_iinc (v := mI (x5 + 1)) (lv' := [(5, .int (mI (x5 + 1))), (4, .int (mI r115)), (0, .ref (ad 77)), (1, .ref (ad w1)), (2, .ref (ad 1)), (3, .int (mI x3))]) hx hb dX4_readInto_52 hl (k := 5) rfl (mI_add _ _) (by decide) rfl (fun ls hl => ?_)
      refine lv_goto (tgt := 33) hx hb dX4_readInto_55 (by decide) ?_
      exact hk33 x3 r115 (x5 + 1) σ116 _ _ _ hw (lv_sub hl [2, 3, 4, 5, 1, 0] rfl) hf
def g_X4_readInto (F : Nat) (w1 : Nat) (σ : mMem) : mRs := mlet ((σ 1 1) - 1) (fun y1 => if σ w1 3 = 3 ∨ σ w1 3 = 8 then if mw y1 = mw (3 + (8 * (σ (σ w1 3).toNat 11))) then (g_X4_readInto_h33 F w1 F y1 179 0 σ) else (if mw 0 = 0 ∨ mw 0 = 1 then some (0, σ) else none) else none)
set_option maxRecDepth 100000 in
set_option maxHeartbeats 4000000 in
theorem c_X4_readInto (l : Launch) (D : va_G) (cy : Nat → ClassId) (ad : Nat → Nat) (bs : Nat) (F : Nat) (w1 : Nat)  (σ : mMem) (r : Int) (σ' : mMem) (hw1 : mWorld w1) (hf : g_X4_readInto F w1 σ = some (r, σ')) : mCi l D cy ad bs yX4_readInto cX4_readInto 7 (some .boolean) 4 [.ref (ad 77), .ref (ad w1), .ref (ad 1)] σ r σ' := by
  refine mCi.of (lv := [(0, .ref (ad 77)), (1, .ref (ad w1)), (2, .ref (ad 1))]) km_X4_readInto.2.2.2.2.2 (Nat.le_of_ble_eq_true rfl) rfl (fun p e s m args below meth c H locs ls X hw hl => ?_)
  obtain ⟨⟨hx, hb, -, -, -⟩, -⟩ := id X
  unfold g_X4_readInto at hf
  refine lv_aload_n hx hb dX4_readInto_0 rfl (lv_at hl 2 rfl) ?_
  refine r_geti X hw sh_1 fd_7_1 rfl lf_X4_61 dX4_readInto_1 ?_
  refine lv_iconst (v := mI 1) hx hb dX4_readInto_4 rfl ?_
  refine r_isub X dX4_readInto_5 ?_
  refine r_leti hf (fun y1 hf => ?_)
  refine lv_istore_n (lv' := [(3, .int (mI y1)), (0, .ref (ad 77)), (1, .ref (ad w1)), (2, .ref (ad 1))]) hx hb dX4_readInto_6 rfl hl (by decide) rfl (fun ls hl => ?_)
  refine lv_iload_n hx hb dX4_readInto_7 rfl (lv_at hl 0 rfl) ?_
  refine lv_iconst (v := mI 3) hx hb dX4_readInto_8 rfl ?_
  refine lv_bipush (v := mI 8) hx hb dX4_readInto_9 (by decide) ?_
  refine lv_aload_n hx hb dX4_readInto_11 rfl (lv_at hl 2 rfl) ?_
  refine r_getp X hw hw1.1 fd_10_3 rfl lf_X4_43 dX4_readInto_12 hf (fun hg2 hf => ?_)
  refine r_geti X hw (mPlan_z hg2).1 fd_5_11 rfl lf_X4_47 dX4_readInto_15 ?_
  refine r_imul X dX4_readInto_18 ?_
  refine r_iadd X dX4_readInto_19 ?_
  refine r_icmp_eq (tgt := 25) X dX4_readInto_20 (by decide) hf (fun hc hf => ?_) (fun hc hf => ?_)
  · refine lv_sipush (v := mI 179) hx hb dX4_readInto_25 (by decide) ?_
    refine lv_istore (lv' := [(4, .int (mI 179)), (3, .int (mI y1)), (0, .ref (ad 77)), (1, .ref (ad w1)), (2, .ref (ad 1))]) hx hb dX4_readInto_28 hl (by decide) rfl (fun ls hl => ?_)
    refine lv_iconst (v := mI 0) hx hb dX4_readInto_30 rfl ?_
    refine lv_istore (lv' := [(5, .int (mI 0)), (4, .int (mI 179)), (3, .int (mI y1)), (0, .ref (ad 77)), (1, .ref (ad w1)), (2, .ref (ad 1))]) hx hb dX4_readInto_31 hl (by decide) rfl (fun ls hl => ?_)
    exact w_X4_readInto_h33 X hw1 _ hw (lv_sub hl [3, 4, 5, 2, 1, 0] rfl) hf
  · refine lv_iconst (v := mI 0) hx hb dX4_readInto_23 rfl ?_
    exact r_zret X hw dX4_readInto_24 hf
def g_X5_clear (F : Nat) (o : Nat) (σ : mMem) : mRs := mob (g_J7_fill_53178 F (o + 1) 81 0 σ) (fun r1 σ2 => mob (g_J7_fill_53178 F (o + 2) 6 0 σ2) (fun r3 σ4 => mob (g_J7_fill_53178 F (o + 3) 60 0 σ4) (fun r5 σ6 => mlm (mup σ6 o 4 0) (fun σ7 => mlm (mup σ7 o 5 0) (fun σ8 => mlm (mup σ8 o 6 0) (fun σ9 => mlm (mup σ9 o 7 0) (fun σ10 => mlm (mup σ10 o 8 0) (fun σ11 => mlm (mup σ11 o 9 0) (fun σ12 => mlm (mup σ12 o 10 0) (fun σ13 => mlm (mup σ13 o 11 0) (fun σ14 => mlm (mup σ14 o 12 500) (fun σ15 => mlm (mup σ15 o 13 0) (fun σ16 => mlm (mup σ16 o 14 0) (fun σ17 => some (0, σ17)))))))))))))))
set_option maxRecDepth 100000 in
set_option maxHeartbeats 4000000 in
theorem c_X5_clear (l : Launch) (D : va_G) (cy : Nat → ClassId) (ad : Nat → Nat) (bs : Nat) (F : Nat) (o : Nat)  (σ : mMem) (r : Int) (σ' : mMem) (ho : mPlan o) (hf : g_X5_clear F o σ = some (r, σ')) : mCv l D cy ad bs yX5_clear cX5_clear 1 none 2 [.ref (ad o)] σ σ' := by
  refine mCv.of (lv := [(0, .ref (ad o))]) km_X5_clear.2.2.2.2.2 (Nat.le_of_ble_eq_true rfl) rfl (fun p e s m args below meth c H locs ls X hw hl => ?_)
  obtain ⟨⟨hx, hb, -, -, -⟩, -⟩ := id X
  unfold g_X5_clear at hf
  refine lv_aload_n hx hb dX5_clear_0 rfl (lv_at hl 0 rfl) ?_
  refine r_getr (o + 1) X hw ho.1 fd_5_0 rfl rfl lf_X5_11 dX5_clear_1 ?_
  refine lv_iconst (v := mI 0) hx hb dX5_clear_4 rfl ?_
  refine r_csv (rest := []) [.ref (ad (o + 1)), .int (mI 0)] X hw (fun ra σa h => c_J7_fill_53178 l D cy ad bs F (o + 1) 81 0 σ ra σa ho.2.1 h) km_J7_fill_53178 ks_J7_fill_53178 lm_X5_31 dX5_clear_5 hl.1 rfl rfl (Nat.le_of_ble_eq_true rfl) ⟨by decide, by decide⟩ ⟨Nat.zero_le _, Nat.zero_le _⟩ hf (fun r1 σ2 _ hf H locs hw => ?_)
  refine lv_aload_n hx hb dX5_clear_8 rfl (lv_at hl 0 rfl) ?_
  refine r_getr (o + 2) X hw ho.1 fd_5_1 rfl rfl lf_X5_15 dX5_clear_9 ?_
  refine lv_iconst (v := mI 0) hx hb dX5_clear_12 rfl ?_
  refine r_csv (rest := []) [.ref (ad (o + 2)), .int (mI 0)] X hw (fun ra σa h => c_J7_fill_53178 l D cy ad bs F (o + 2) 6 0 σ2 ra σa ho.2.2.1 h) km_J7_fill_53178 ks_J7_fill_53178 lm_X5_31 dX5_clear_13 hl.1 rfl rfl (Nat.le_of_ble_eq_true rfl) ⟨by decide, by decide⟩ ⟨Nat.zero_le _, Nat.zero_le _⟩ hf (fun r3 σ4 _ hf H locs hw => ?_)
  refine lv_aload_n hx hb dX5_clear_16 rfl (lv_at hl 0 rfl) ?_
  refine r_getr (o + 3) X hw ho.1 fd_5_2 rfl rfl lf_X5_20 dX5_clear_17 ?_
  refine lv_iconst (v := mI 0) hx hb dX5_clear_20 rfl ?_
  refine r_csv (rest := []) [.ref (ad (o + 3)), .int (mI 0)] X hw (fun ra σa h => c_J7_fill_53178 l D cy ad bs F (o + 3) 60 0 σ4 ra σa ho.2.2.2.1 h) km_J7_fill_53178 ks_J7_fill_53178 lm_X5_31 dX5_clear_21 hl.1 rfl rfl (Nat.le_of_ble_eq_true rfl) ⟨by decide, by decide⟩ ⟨Nat.zero_le _, Nat.zero_le _⟩ hf (fun r5 σ6 _ hf H locs hw => ?_)
  refine lv_aload_n hx hb dX5_clear_24 rfl (lv_at hl 0 rfl) ?_
  refine lv_iconst (v := mI 0) hx hb dX5_clear_25 rfl ?_
  refine r_puti X hw ho.1 fd_5_4 fp_5_4 rfl rfl lf_X5_37 dX5_clear_26 (fun H locs hw => ?_)
  refine r_mem hf hw (fun σ7 hw hf => ?_)
  refine lv_aload_n hx hb dX5_clear_29 rfl (lv_at hl 0 rfl) ?_
  refine lv_iconst (v := mI 0) hx hb dX5_clear_30 rfl ?_
  refine r_puti X hw ho.1 fd_5_5 fp_5_5 rfl rfl lf_X5_41 dX5_clear_31 (fun H locs hw => ?_)
  refine r_mem hf hw (fun σ8 hw hf => ?_)
  refine lv_aload_n hx hb dX5_clear_34 rfl (lv_at hl 0 rfl) ?_
  refine lv_iconst (v := mI 0) hx hb dX5_clear_35 rfl ?_
  refine r_puti X hw ho.1 fd_5_6 fp_5_6 rfl rfl lf_X5_44 dX5_clear_36 (fun H locs hw => ?_)
  refine r_mem hf hw (fun σ9 hw hf => ?_)
  refine lv_aload_n hx hb dX5_clear_39 rfl (lv_at hl 0 rfl) ?_
  refine lv_iconst (v := mI 0) hx hb dX5_clear_40 rfl ?_
  refine r_puti X hw ho.1 fd_5_7 fp_5_7 rfl rfl lf_X5_47 dX5_clear_41 (fun H locs hw => ?_)
  refine r_mem hf hw (fun σ10 hw hf => ?_)
  refine lv_aload_n hx hb dX5_clear_44 rfl (lv_at hl 0 rfl) ?_
  refine lv_iconst (v := mI 0) hx hb dX5_clear_45 rfl ?_
  refine r_puti X hw ho.1 fd_5_8 fp_5_8 rfl rfl lf_X5_50 dX5_clear_46 (fun H locs hw => ?_)
  refine r_mem hf hw (fun σ11 hw hf => ?_)
  refine lv_aload_n hx hb dX5_clear_49 rfl (lv_at hl 0 rfl) ?_
  refine lv_iconst (v := mI 0) hx hb dX5_clear_50 rfl ?_
  refine r_puti X hw ho.1 fd_5_9 fp_5_9 rfl rfl lf_X5_53 dX5_clear_51 (fun H locs hw => ?_)
  refine r_mem hf hw (fun σ12 hw hf => ?_)
  refine lv_aload_n hx hb dX5_clear_54 rfl (lv_at hl 0 rfl) ?_
  refine lv_iconst (v := mI 0) hx hb dX5_clear_55 rfl ?_
  refine r_puti X hw ho.1 fd_5_10 fp_5_10 rfl rfl lf_X5_56 dX5_clear_56 (fun H locs hw => ?_)
  refine r_mem hf hw (fun σ13 hw hf => ?_)
  refine lv_aload_n hx hb dX5_clear_59 rfl (lv_at hl 0 rfl) ?_
  refine lv_iconst (v := mI 0) hx hb dX5_clear_60 rfl ?_
  refine r_puti X hw ho.1 fd_5_11 fp_5_11 rfl rfl lf_X5_59 dX5_clear_61 (fun H locs hw => ?_)
  refine r_mem hf hw (fun σ14 hw hf => ?_)
  refine lv_aload_n hx hb dX5_clear_64 rfl (lv_at hl 0 rfl) ?_
  refine lv_sipush (v := mI 500) hx hb dX5_clear_65 (by decide) ?_
  refine r_puti X hw ho.1 fd_5_12 fp_5_12 rfl rfl lf_X5_62 dX5_clear_68 (fun H locs hw => ?_)
  refine r_mem hf hw (fun σ15 hw hf => ?_)
  refine lv_aload_n hx hb dX5_clear_71 rfl (lv_at hl 0 rfl) ?_
  refine lv_iconst (v := mI 0) hx hb dX5_clear_72 rfl ?_
  refine r_puti X hw ho.1 fd_5_13 fp_5_13 rfl rfl lf_X5_65 dX5_clear_73 (fun H locs hw => ?_)
  refine r_mem hf hw (fun σ16 hw hf => ?_)
  refine lv_aload_n hx hb dX5_clear_76 rfl (lv_at hl 0 rfl) ?_
  refine lv_iconst (v := mI 0) hx hb dX5_clear_77 rfl ?_
  refine r_puti X hw ho.1 fd_5_14 fp_5_14 rfl rfl lf_X5_68 dX5_clear_78 (fun H locs hw => ?_)
  refine r_mem hf hw (fun σ17 hw hf => ?_)
  exact r_vret X hw dX5_clear_81 hf
