def g_X10_pass_b66 (F : Nat) (o : Nat)  (σ : mMem) : mRs := mob (g_J9_min_7cf53 F 999 ((σ o 4) + 1) σ) (fun r209 σ210 => mlm (mup σ210 o 4 r209) (fun σ211 => some (0, σ211)))
set_option maxRecDepth 100000 in
set_option maxHeartbeats 4000000 in
theorem w_X10_pass_b66 {p : Program} {l : Launch} {e : Env} {s : State} {m : MethodId} {args : Array Value} {below : List Frame} {meth : Method} {c : Code} {D : va_G} {cy : Nat → ClassId} {ad : Nat → Nat} {bs : Nat} {F : Nat} {o : Nat} (X : mCx p m c cX10_pass 4 s args RX10 meth D cy none) (ho : mWorld o) {r : Int} {σ' : mMem}    {σ : mMem} {H : Heap} {locs : List Loc} {ls : Array Slot} (hw : mWd D cy ad bs true mN σ s.heap H locs) (hl : lv_has ls 4 [(0, .ref (ad o))]) (hf : g_X10_pass_b66 F o  σ = some (r, σ')) : mGv p l e 5 s m args below meth c D cy ad bs σ' H locs (F0 m 66 ls []) := by
  obtain ⟨⟨hx, hb, -, -, -⟩, -⟩ := id X
  unfold g_X10_pass_b66 at hf
  refine lv_aload_n hx hb dX10_pass_66 rfl (lv_at hl 0 rfl) ?_
  refine lv_sipush (v := mI 999) hx hb dX10_pass_67 (by decide) ?_
  refine lv_aload_n hx hb dX10_pass_70 rfl (lv_at hl 0 rfl) ?_
  refine r_geti X hw ho.1 fd_10_4 rfl lf_X10_32 dX10_pass_71 ?_
  refine lv_iconst (v := mI 1) hx hb dX10_pass_74 rfl ?_
  refine r_iadd X dX10_pass_75 ?_
  refine r_csi (rest := [.ref (ad o)]) [.int (mI 999), .int (mI ((σ o 4) + 1))] X hw (fun ra σa h => c_J9_min_7cf53 l D cy ad bs F 999 ((σ o 4) + 1) σ ra σa  h) km_J9_min_7cf53 ks_J9_min_7cf53 lm_X10_69 dX10_pass_76 hl.1 rfl rfl (Nat.le_of_ble_eq_true rfl) ⟨by decide, by decide⟩ ⟨Nat.zero_le _, Nat.zero_le _⟩ hf (fun r209 σ210 _ hf H locs hw => ?_)
  refine r_puti X hw ho.1 fd_10_4 fp_10_4 rfl rfl lf_X10_32 dX10_pass_79 (fun H locs hw => ?_)
  refine r_mem hf hw (fun σ211 hw hf => ?_)
  exact r_vret X hw dX10_pass_82 hf
def g_X10_pass_b60 (F : Nat) (o : Nat) (k12 : Int → Int → Int → mMem → mRs) (x1 x2 x3 : Int) (σ : mMem) : mRs := k12 x1 x2 (x3 + 1) σ
set_option maxRecDepth 100000 in
set_option maxHeartbeats 4000000 in
theorem w_X10_pass_b60 {p : Program} {l : Launch} {e : Env} {s : State} {m : MethodId} {args : Array Value} {below : List Frame} {meth : Method} {c : Code} {D : va_G} {cy : Nat → ClassId} {ad : Nat → Nat} {bs : Nat} {F : Nat} {o : Nat} (X : mCx p m c cX10_pass 4 s args RX10 meth D cy none) (ho : mWorld o) {r : Int} {σ' : mMem} {k12 : Int → Int → Int → mMem → mRs} (hk12 : ∀ (x1 x2 x3 : Int) (σ : mMem) (H : Heap) (locs : List Loc) (ls : Array Slot), mWd D cy ad bs true mN σ s.heap H locs → lv_has ls 4 [(0, .ref (ad o)), (1, .int (mI x1)), (2, .int (mI x2)), (3, .int (mI x3))] → k12 x1 x2 x3 σ = some (r, σ') → mGv p l e 5 s m args below meth c D cy ad bs σ' H locs (F0 m 12 ls [])) {x1 x2 x3 : Int} {σ : mMem} {H : Heap} {locs : List Loc} {ls : Array Slot} (hw : mWd D cy ad bs true mN σ s.heap H locs) (hl : lv_has ls 4 [(0, .ref (ad o)), (1, .int (mI x1)), (2, .int (mI x2)), (3, .int (mI x3))]) (hf : g_X10_pass_b60 F o k12 x1 x2 x3 σ = some (r, σ')) : mGv p l e 5 s m args below meth c D cy ad bs σ' H locs (F0 m 60 ls []) := by
  obtain ⟨⟨hx, hb, -, -, -⟩, -⟩ := id X
  unfold g_X10_pass_b60 at hf
  refine lv_iinc (v := mI (x3 + 1)) (lv' := [(3, .int (mI (x3 + 1))), (0, .ref (ad o)), (1, .int (mI x1)), (2, .int (mI x2))]) hx hb dX10_pass_60 hl (k := 3) rfl (mI_add _ _) (by decide) rfl (fun ls hl => ?_)
  refine lv_goto (tgt := 12) hx hb dX10_pass_63 (by decide) ?_
  exact hk12 x1 x2 (x3 + 1) σ _ _ _ hw (lv_sub hl [1, 2, 3, 0] rfl) hf
def g_X10_pass_h12 (F : Nat) (o : Nat)  : Nat → Int → Int → Int → mMem → mRs
  | 0, _, _, _, _ => none
  | n + 1, x1, x2, x3, σ => if σ o 3 = 3 ∨ σ o 3 = 8 then if mw (σ (σ o 3).toNat 11) ≤ mw x3 then (g_X10_pass_b66 F o σ) else (if mw 6 ≤ mw x3 then (g_X10_pass_b66 F o σ) else (if 0 ≤ mw x3 ∧ mw x3 < (6 : Int) ∧ (mw 0 = 0 ∨ mw 0 = 1) then mlm (mup σ (o + 2) (mw x3).toNat 0) (fun σ104 => if mw x1 < mw (x3 * x2) then (g_X10_pass_b60 F o (g_X10_pass_h12 F o n) x1 x2 x3 σ104) else (mob (g_X10_of F o x3 3 σ104) (fun r105 σ106 => if mw r105 ≤ 0 then (g_X10_pass_b60 F o (g_X10_pass_h12 F o n) x1 x2 x3 σ106) else (mob (g_X10_moveBox F o x3 σ106) (fun r107 σ108 => g_X10_pass_b60 F o (g_X10_pass_h12 F o n) x1 x2 x3 σ108))))) else none)) else none
set_option maxRecDepth 100000 in
set_option maxHeartbeats 4000000 in
theorem w_X10_pass_h12 {p : Program} {l : Launch} {e : Env} {s : State} {m : MethodId} {args : Array Value} {below : List Frame} {meth : Method} {c : Code} {D : va_G} {cy : Nat → ClassId} {ad : Nat → Nat} {bs : Nat} {F : Nat} {o : Nat} (X : mCx p m c cX10_pass 4 s args RX10 meth D cy none) (ho : mWorld o) {r : Int} {σ' : mMem}   (n : Nat) : ∀ {x1 x2 x3 : Int} {σ : mMem} {H : Heap} {locs : List Loc} {ls : Array Slot} (_ : mWd D cy ad bs true mN σ s.heap H locs) (_ : lv_has ls 4 [(0, .ref (ad o)), (1, .int (mI x1)), (2, .int (mI x2)), (3, .int (mI x3))]) (_ : g_X10_pass_h12 F o n x1 x2 x3 σ = some (r, σ')), mGv p l e 5 s m args below meth c D cy ad bs σ' H locs (F0 m 12 ls []) := by
  obtain ⟨⟨hx, hb, -, -, -⟩, -⟩ := id X
  induction n with
  | zero =>
    intro x1 x2 x3 σ H locs ls hw hl hf
    unfold g_X10_pass_h12 at hf
    cases hf
  | succ n ih =>
    have hk12 : ∀ (x1 x2 x3 : Int) (σ : mMem) (H : Heap) (locs : List Loc) (ls : Array Slot), mWd D cy ad bs true mN σ s.heap H locs → lv_has ls 4 [(0, .ref (ad o)), (1, .int (mI x1)), (2, .int (mI x2)), (3, .int (mI x3))] → g_X10_pass_h12 F o n x1 x2 x3 σ = some (r, σ') → mGv p l e 5 s m args below meth c D cy ad bs σ' H locs (F0 m 12 ls []) := fun x1 x2 x3 σ H locs ls hw hl hf => ih hw hl hf
    intro x1 x2 x3 σ H locs ls hw hl hf
    unfold g_X10_pass_h12 at hf
    refine lv_iload_n hx hb dX10_pass_12 rfl (lv_at hl 3 rfl) ?_
    refine lv_aload_n hx hb dX10_pass_13 rfl (lv_at hl 0 rfl) ?_
    refine r_getp X hw ho.1 fd_10_3 rfl lf_X10_28 dX10_pass_14 hf (fun hg103 hf => ?_)
    refine r_geti X hw (mPlan_z hg103).1 fd_5_11 rfl lf_X10_55 dX10_pass_17 ?_
    refine r_icmp_ge (tgt := 66) X dX10_pass_20 (by decide) hf (fun hc hf => ?_) (fun hc hf => ?_)
    · exact w_X10_pass_b66 X ho hw (lv_sub hl [0] rfl) hf
    · refine lv_iload_n hx hb dX10_pass_23 rfl (lv_at hl 3 rfl) ?_
      refine lv_aload_n hx hb dX10_pass_24 rfl (lv_at hl 0 rfl) ?_
      refine r_getr (o + 2) X hw ho.1 fd_10_1 rfl rfl lf_X10_17 dX10_pass_25 ?_
      refine r_zleni (6 : Int) rfl X hw ho.2.2.1 dX10_pass_28 ?_
      refine r_icmp_ge (tgt := 66) X dX10_pass_29 (by decide) hf (fun hc hf => ?_) (fun hc hf => ?_)
      · exact w_X10_pass_b66 X ho hw (lv_sub hl [0] rfl) hf
      · refine lv_aload_n hx hb dX10_pass_32 rfl (lv_at hl 0 rfl) ?_
        refine r_getr (o + 2) X hw ho.1 fd_10_1 rfl rfl lf_X10_17 dX10_pass_33 ?_
        refine lv_iload_n hx hb dX10_pass_36 rfl (lv_at hl 3 rfl) ?_
        refine lv_iconst (v := mI 0) hx hb dX10_pass_37 rfl ?_
        refine r_zast (6 : Int) rfl X hw ho.2.2.1 dX10_pass_38 hf (fun hf H locs hw => ?_)
        refine r_mem hf hw (fun σ104 hw hf => ?_)
        refine lv_iload_n hx hb dX10_pass_39 rfl (lv_at hl 1 rfl) ?_
        refine lv_iload_n hx hb dX10_pass_40 rfl (lv_at hl 3 rfl) ?_
        refine lv_iload_n hx hb dX10_pass_41 rfl (lv_at hl 2 rfl) ?_
        refine r_imul X dX10_pass_42 ?_
        refine r_icmp_lt (tgt := 60) X dX10_pass_43 (by decide) hf (fun hc hf => ?_) (fun hc hf => ?_)
        · exact w_X10_pass_b60 X ho hk12 hw (lv_sub hl [0, 1, 2, 3] rfl) hf
        · refine lv_aload_n hx hb dX10_pass_46 rfl (lv_at hl 0 rfl) ?_
          refine lv_iload_n hx hb dX10_pass_47 rfl (lv_at hl 3 rfl) ?_
          refine lv_iconst (v := mI 3) hx hb dX10_pass_48 rfl ?_
          refine r_cvi (rest := []) [.int (mI x3), .int (mI 3)] X hw (fun ra σa h => c_X10_of l D cy ad bs F o x3 3 σ104 ra σa ho h) ho.1 rfl (by decide) rfl km_X10_of kv_X10_of lm_X10_65 dX10_pass_49 hl.1 rfl rfl (Nat.le_of_ble_eq_true rfl) ⟨by decide, by decide⟩ ⟨Nat.zero_le _, Nat.zero_le _⟩ hf (fun r105 σ106 _ hf H locs hw => ?_)
          refine r_if_le (tgt := 60) X dX10_pass_52 (by decide) hf (fun hc hf => ?_) (fun hc hf => ?_)
          · exact w_X10_pass_b60 X ho hk12 hw (lv_sub hl [0, 1, 2, 3] rfl) hf
          · refine lv_aload_n hx hb dX10_pass_55 rfl (lv_at hl 0 rfl) ?_
            refine lv_iload_n hx hb dX10_pass_56 rfl (lv_at hl 3 rfl) ?_
            refine r_cvv (rest := []) [.int (mI x3)] X hw (fun ra σa h => c_X10_moveBox l D cy ad bs F o x3 σ106 ra σa ho h) ho.1 rfl (by decide) rfl km_X10_moveBox kv_X10_moveBox lm_X10_104 dX10_pass_57 hl.1 rfl rfl (Nat.le_of_ble_eq_true rfl) ⟨by decide, by decide⟩ ⟨Nat.zero_le _, Nat.zero_le _⟩ hf (fun r107 σ108 _ hf H locs hw => ?_)
            exact w_X10_pass_b60 X ho hk12 hw (lv_sub hl [0, 1, 2, 3] rfl) hf
def g_X10_pass (F : Nat) (o : Nat) (x1 x2 : Int) (σ : mMem) : mRs := mlm (mup σ o 6 0) (fun σ1 => mlm (mup σ1 o 7 0) (fun σ2 => g_X10_pass_h12 F o F x1 x2 0 σ2))
set_option maxRecDepth 100000 in
set_option maxHeartbeats 4000000 in
theorem c_X10_pass (l : Launch) (D : va_G) (cy : Nat → ClassId) (ad : Nat → Nat) (bs : Nat) (F : Nat) (o : Nat) (x1 x2 : Int) (σ : mMem) (r : Int) (σ' : mMem) (ho : mWorld o) (hf : g_X10_pass F o x1 x2 σ = some (r, σ')) : mCv l D cy ad bs yX10_pass cX10_pass 4 none 5 [.ref (ad o), .int (mI x1), .int (mI x2)] σ σ' := by
  refine mCv.of (lv := [(0, .ref (ad o)), (1, .int (mI x1)), (2, .int (mI x2))]) km_X10_pass.2.2.2.2.2 (Nat.le_of_ble_eq_true rfl) rfl (fun p e s m args below meth c H locs ls X hw hl => ?_)
  obtain ⟨⟨hx, hb, -, -, -⟩, -⟩ := id X
  unfold g_X10_pass at hf
  refine lv_aload_n hx hb dX10_pass_0 rfl (lv_at hl 0 rfl) ?_
  refine lv_iconst (v := mI 0) hx hb dX10_pass_1 rfl ?_
  refine r_puti X hw ho.1 fd_10_6 fp_10_6 rfl rfl lf_X10_39 dX10_pass_2 (fun H locs hw => ?_)
  refine r_mem hf hw (fun σ1 hw hf => ?_)
  refine lv_aload_n hx hb dX10_pass_5 rfl (lv_at hl 0 rfl) ?_
  refine lv_iconst (v := mI 0) hx hb dX10_pass_6 rfl ?_
  refine r_puti X hw ho.1 fd_10_7 fp_10_7 rfl rfl lf_X10_42 dX10_pass_7 (fun H locs hw => ?_)
  refine r_mem hf hw (fun σ2 hw hf => ?_)
  refine lv_iconst (v := mI 0) hx hb dX10_pass_10 rfl ?_
  refine lv_istore_n (lv' := [(3, .int (mI 0)), (0, .ref (ad o)), (1, .int (mI x1)), (2, .int (mI x2))]) hx hb dX10_pass_11 rfl hl (by decide) rfl (fun ls hl => ?_)
  exact w_X10_pass_h12 X ho _ hw (lv_sub hl [1, 2, 3, 0] rfl) hf
def g_X0_stateBehind_b77 (F : Nat) (w1 : Nat)  (t0 t1 : Int) (σ : mMem) : mRs := mob (g_X10_of F 29 t0 t1 σ) (fun r209 σ210 => some (r209, σ210))
set_option maxRecDepth 100000 in
set_option maxHeartbeats 4000000 in
theorem w_X0_stateBehind_b77 {p : Program} {l : Launch} {e : Env} {s : State} {m : MethodId} {args : Array Value} {below : List Frame} {meth : Method} {c : Code} {D : va_G} {cy : Nat → ClassId} {ad : Nat → Nat} {bs : Nat} {F : Nat} {w1 : Nat} (X : mCx p m c cX0_stateBehind 6 s args RX0 meth D cy (some .int)) (hw1 : mWorld w1) {r : Int} {σ' : mMem}   {t0 t1 : Int} {σ : mMem} {H : Heap} {locs : List Loc} {ls : Array Slot} (hw : mWd D cy ad bs true mN σ s.heap H locs) (hl : lv_has ls 6 [(0, .ref (ad 26)), (1, .ref (ad w1))]) (hf : g_X0_stateBehind_b77 F w1 t0 t1 σ = some (r, σ')) : mGi p l e 6 s m args below meth c D cy ad bs r σ' H locs (F0 m 77 ls [.int (mI t1), .int (mI t0), .ref (ad 29)]) := by
  obtain ⟨⟨hx, hb, -, -, -⟩, -⟩ := id X
  unfold g_X0_stateBehind_b77 at hf
  refine r_cvi (rest := []) [.int (mI t0), .int (mI t1)] X hw (fun ra σa h => c_X10_of l D cy ad bs F 29 t0 t1 σ ra σa sh_w29 h) sh_29 rfl (by decide) rfl km_X10_of kv_X10_of lm_X0_45 dX0_stateBehind_77 hl.1 rfl rfl (Nat.le_of_ble_eq_true rfl) ⟨by decide, by decide⟩ ⟨Nat.zero_le _, Nat.zero_le _⟩ hf (fun r209 σ210 _ hf H locs hw => ?_)
  exact r_iret X hw dX0_stateBehind_80 hf
def g_X0_stateBehind_h22 (F : Nat) (w1 : Nat)  : Nat → Int → Int → Int → Int → mMem → mRs
  | 0, _, _, _, _, _ => none
  | n + 1, x2, x3, x4, x5, σ => if mw x3 ≤ mw x5 then (if ¬ mw x4 = mw 4 then (if ¬ mw x4 = mw 3 then (g_X0_stateBehind_b77 F w1 x2 x4 σ) else (g_X0_stateBehind_b77 F w1 x2 4 σ)) else (mob (g_X10_of F 29 x2 9 σ) (fun r105 σ106 => some (r105, σ106)))) else (mob (g_X10_pass F 29 0 0 σ) (fun r107 σ108 => (g_X0_stateBehind_h22 F w1 n) x2 x3 x4 (x5 + 1) σ108))
set_option maxRecDepth 100000 in
set_option maxHeartbeats 4000000 in
theorem w_X0_stateBehind_h22 {p : Program} {l : Launch} {e : Env} {s : State} {m : MethodId} {args : Array Value} {below : List Frame} {meth : Method} {c : Code} {D : va_G} {cy : Nat → ClassId} {ad : Nat → Nat} {bs : Nat} {F : Nat} {w1 : Nat} (X : mCx p m c cX0_stateBehind 6 s args RX0 meth D cy (some .int)) (hw1 : mWorld w1) {r : Int} {σ' : mMem}   (n : Nat) : ∀ {x2 x3 x4 x5 : Int} {σ : mMem} {H : Heap} {locs : List Loc} {ls : Array Slot} (_ : mWd D cy ad bs true mN σ s.heap H locs) (_ : lv_has ls 6 [(0, .ref (ad 26)), (1, .ref (ad w1)), (2, .int (mI x2)), (3, .int (mI x3)), (4, .int (mI x4)), (5, .int (mI x5))]) (_ : g_X0_stateBehind_h22 F w1 n x2 x3 x4 x5 σ = some (r, σ')), mGi p l e 6 s m args below meth c D cy ad bs r σ' H locs (F0 m 22 ls []) := by
  obtain ⟨⟨hx, hb, -, -, -⟩, -⟩ := id X
  induction n with
  | zero =>
    intro x2 x3 x4 x5 σ H locs ls hw hl hf
    unfold g_X0_stateBehind_h22 at hf
    cases hf
  | succ n ih =>
    have hk22 : ∀ (x2 x3 x4 x5 : Int) (σ : mMem) (H : Heap) (locs : List Loc) (ls : Array Slot), mWd D cy ad bs true mN σ s.heap H locs → lv_has ls 6 [(0, .ref (ad 26)), (1, .ref (ad w1)), (2, .int (mI x2)), (3, .int (mI x3)), (4, .int (mI x4)), (5, .int (mI x5))] → g_X0_stateBehind_h22 F w1 n x2 x3 x4 x5 σ = some (r, σ') → mGi p l e 6 s m args below meth c D cy ad bs r σ' H locs (F0 m 22 ls []) := fun x2 x3 x4 x5 σ H locs ls hw hl hf => ih hw hl hf
    intro x2 x3 x4 x5 σ H locs ls hw hl hf
    unfold g_X0_stateBehind_h22 at hf
    refine lv_iload hx hb dX0_stateBehind_22 (lv_at hl 5 rfl) ?_
    refine lv_iload_n hx hb dX0_stateBehind_24 rfl (lv_at hl 3 rfl) ?_
    refine r_icmp_ge (tgt := 43) X dX0_stateBehind_25 (by decide) hf (fun hc hf => ?_) (fun hc hf => ?_)
    · refine lv_iload hx hb dX0_stateBehind_43 (lv_at hl 4 rfl) ?_
      refine lv_iconst (v := mI 4) hx hb dX0_stateBehind_45 rfl ?_
      refine r_icmp_ne (tgt := 60) X dX0_stateBehind_46 (by decide) hf (fun hc hf => ?_) (fun hc hf => ?_)
      · refine lv_aload_n hx hb dX0_stateBehind_60 rfl (lv_at hl 0 rfl) ?_
        refine r_getr 29 X hw sh_26 fd_0_0 rfl rfl lf_X0_25 dX0_stateBehind_61 ?_
        refine lv_iload_n hx hb dX0_stateBehind_64 rfl (lv_at hl 2 rfl) ?_
        refine lv_iload hx hb dX0_stateBehind_65 (lv_at hl 4 rfl) ?_
        refine lv_iconst (v := mI 3) hx hb dX0_stateBehind_67 rfl ?_
        refine r_icmp_ne (tgt := 75) X dX0_stateBehind_68 (by decide) hf (fun hc hf => ?_) (fun hc hf => ?_)
        · refine lv_iload hx hb dX0_stateBehind_75 (lv_at hl 4 rfl) ?_
          exact w_X0_stateBehind_b77 X hw1 hw (lv_sub hl [0, 1] rfl) hf
        · refine lv_iconst (v := mI 4) hx hb dX0_stateBehind_71 rfl ?_
          refine lv_goto (tgt := 77) hx hb dX0_stateBehind_72 (by decide) ?_
          exact w_X0_stateBehind_b77 X hw1 hw (lv_sub hl [0, 1] rfl) hf
      · refine lv_aload_n hx hb dX0_stateBehind_49 rfl (lv_at hl 0 rfl) ?_
        refine r_getr 29 X hw sh_26 fd_0_0 rfl rfl lf_X0_25 dX0_stateBehind_50 ?_
        refine lv_iload_n hx hb dX0_stateBehind_53 rfl (lv_at hl 2 rfl) ?_
        refine lv_bipush (v := mI 9) hx hb dX0_stateBehind_54 (by decide) ?_
        refine r_cvi (rest := []) [.int (mI x2), .int (mI 9)] X hw (fun ra σa h => c_X10_of l D cy ad bs F 29 x2 9 σ ra σa sh_w29 h) sh_29 rfl (by decide) rfl km_X10_of kv_X10_of lm_X0_45 dX0_stateBehind_56 hl.1 rfl rfl (Nat.le_of_ble_eq_true rfl) ⟨by decide, by decide⟩ ⟨Nat.zero_le _, Nat.zero_le _⟩ hf (fun r105 σ106 _ hf H locs hw => ?_)
        exact r_iret X hw dX0_stateBehind_59 hf
    · refine lv_aload_n hx hb dX0_stateBehind_28 rfl (lv_at hl 0 rfl) ?_
      refine r_getr 29 X hw sh_26 fd_0_0 rfl rfl lf_X0_25 dX0_stateBehind_29 ?_
      refine lv_iconst (v := mI 0) hx hb dX0_stateBehind_32 rfl ?_
      refine lv_iconst (v := mI 0) hx hb dX0_stateBehind_33 rfl ?_
      refine r_cvv (rest := []) [.int (mI 0), .int (mI 0)] X hw (fun ra σa h => c_X10_pass l D cy ad bs F 29 0 0 σ ra σa sh_w29 h) sh_29 rfl (by decide) rfl km_X10_pass kv_X10_pass lm_X0_41 dX0_stateBehind_34 hl.1 rfl rfl (Nat.le_of_ble_eq_true rfl) ⟨by decide, by decide⟩ ⟨Nat.zero_le _, Nat.zero_le _⟩ hf (fun r107 σ108 _ hf H locs hw => ?_)
      refine lv_iinc (v := mI (x5 + 1)) (lv' := [(5, .int (mI (x5 + 1))), (0, .ref (ad 26)), (1, .ref (ad w1)), (2, .int (mI x2)), (3, .int (mI x3)), (4, .int (mI x4))]) hx hb dX0_stateBehind_37 hl (k := 5) rfl (mI_add _ _) (by decide) rfl (fun ls hl => ?_)
      refine lv_goto (tgt := 22) hx hb dX0_stateBehind_40 (by decide) ?_
      exact hk22 x2 x3 x4 (x5 + 1) σ108 _ _ _ hw (lv_sub hl [1, 2, 3, 4, 5, 0] rfl) hf
def g_X0_stateBehind (F : Nat) (w1 : Nat) (x2 x3 x4 : Int) (σ : mMem) : mRs := mob (g_X10_copyFrom F 29 w1 σ) (fun r1 σ2 => mob (g_X10_set F 29 x2 9 0 σ2) (fun r3 σ4 => g_X0_stateBehind_h22 F w1 F x2 x3 x4 0 σ4))
set_option maxRecDepth 100000 in
set_option maxHeartbeats 4000000 in
theorem c_X0_stateBehind (l : Launch) (D : va_G) (cy : Nat → ClassId) (ad : Nat → Nat) (bs : Nat) (F : Nat) (w1 : Nat) (x2 x3 x4 : Int) (σ : mMem) (r : Int) (σ' : mMem) (hw1 : mWorld w1) (hf : g_X0_stateBehind F w1 x2 x3 x4 σ = some (r, σ')) : mCi l D cy ad bs yX0_stateBehind cX0_stateBehind 6 (some .int) 6 [.ref (ad 26), .ref (ad w1), .int (mI x2), .int (mI x3), .int (mI x4)] σ r σ' := by
  refine mCi.of (lv := [(0, .ref (ad 26)), (1, .ref (ad w1)), (2, .int (mI x2)), (3, .int (mI x3)), (4, .int (mI x4))]) km_X0_stateBehind.2.2.2.2.2 (Nat.le_of_ble_eq_true rfl) rfl (fun p e s m args below meth c H locs ls X hw hl => ?_)
  obtain ⟨⟨hx, hb, -, -, -⟩, -⟩ := id X
  unfold g_X0_stateBehind at hf
  refine lv_aload_n hx hb dX0_stateBehind_0 rfl (lv_at hl 0 rfl) ?_
  refine r_getr 29 X hw sh_26 fd_0_0 rfl rfl lf_X0_25 dX0_stateBehind_1 ?_
  refine lv_aload_n hx hb dX0_stateBehind_4 rfl (lv_at hl 1 rfl) ?_
  refine r_cvv (rest := []) [.ref (ad w1)] X hw (fun ra σa h => c_X10_copyFrom l D cy ad bs F 29 w1 σ ra σa sh_w29 hw1 h) sh_29 rfl (by decide) rfl km_X10_copyFrom kv_X10_copyFrom lm_X0_33 dX0_stateBehind_5 hl.1 rfl rfl (Nat.le_of_ble_eq_true rfl) ⟨by decide, by decide⟩ ⟨Nat.zero_le _, Nat.zero_le _⟩ hf (fun r1 σ2 _ hf H locs hw => ?_)
  refine lv_aload_n hx hb dX0_stateBehind_8 rfl (lv_at hl 0 rfl) ?_
  refine r_getr 29 X hw sh_26 fd_0_0 rfl rfl lf_X0_25 dX0_stateBehind_9 ?_
  refine lv_iload_n hx hb dX0_stateBehind_12 rfl (lv_at hl 2 rfl) ?_
  refine lv_bipush (v := mI 9) hx hb dX0_stateBehind_13 (by decide) ?_
  refine lv_iconst (v := mI 0) hx hb dX0_stateBehind_15 rfl ?_
  refine r_cvv (rest := []) [.int (mI x2), .int (mI 9), .int (mI 0)] X hw (fun ra σa h => c_X10_set l D cy ad bs F 29 x2 9 0 σ2 ra σa sh_w29 h) sh_29 rfl (by decide) rfl km_X10_set kv_X10_set lm_X0_37 dX0_stateBehind_16 hl.1 rfl rfl (Nat.le_of_ble_eq_true rfl) ⟨by decide, by decide⟩ ⟨Nat.zero_le _, Nat.zero_le _⟩ hf (fun r3 σ4 _ hf H locs hw => ?_)
  refine lv_iconst (v := mI 0) hx hb dX0_stateBehind_19 rfl ?_
  refine lv_istore (lv' := [(5, .int (mI 0)), (0, .ref (ad 26)), (1, .ref (ad w1)), (2, .int (mI x2)), (3, .int (mI x3)), (4, .int (mI x4))]) hx hb dX0_stateBehind_20 hl (by decide) rfl (fun ls hl => ?_)
  exact w_X0_stateBehind_h22 X hw1 _ hw (lv_sub hl [1, 2, 3, 4, 5, 0] rfl) hf
def g_X0_isAsIn_b59 (F : Nat) (w1 : Nat)  (t0 : Int) (σ : mMem) : mRs := if mw t0 = 0 ∨ mw t0 = 1 then some (t0, σ) else none
set_option maxRecDepth 100000 in
set_option maxHeartbeats 4000000 in
theorem w_X0_isAsIn_b59 {p : Program} {l : Launch} {e : Env} {s : State} {m : MethodId} {args : Array Value} {below : List Frame} {meth : Method} {c : Code} {D : va_G} {cy : Nat → ClassId} {ad : Nat → Nat} {bs : Nat} {F : Nat} {w1 : Nat} (X : mCx p m c cX0_isAsIn 3 s args RX0 meth D cy (some .boolean)) (hw1 : mWorld w1) {r : Int} {σ' : mMem}   {t0 : Int} {σ : mMem} {H : Heap} {locs : List Loc} {ls : Array Slot} (hw : mWd D cy ad bs true mN σ s.heap H locs) (hl : lv_has ls 3 [(0, .ref (ad 26)), (1, .ref (ad w1))]) (hf : g_X0_isAsIn_b59 F w1 t0 σ = some (r, σ')) : mGi p l e 2 s m args below meth c D cy ad bs r σ' H locs (F0 m 59 ls [.int (mI t0)]) := by
  obtain ⟨⟨hx, hb, -, -, -⟩, -⟩ := id X
  unfold g_X0_isAsIn_b59 at hf
  exact r_zret X hw dX0_isAsIn_59 hf
def g_X0_isAsIn_b58 (F : Nat) (w1 : Nat)  (σ : mMem) : mRs := g_X0_isAsIn_b59 F w1 0 σ
set_option maxRecDepth 100000 in
set_option maxHeartbeats 4000000 in
theorem w_X0_isAsIn_b58 {p : Program} {l : Launch} {e : Env} {s : State} {m : MethodId} {args : Array Value} {below : List Frame} {meth : Method} {c : Code} {D : va_G} {cy : Nat → ClassId} {ad : Nat → Nat} {bs : Nat} {F : Nat} {w1 : Nat} (X : mCx p m c cX0_isAsIn 3 s args RX0 meth D cy (some .boolean)) (hw1 : mWorld w1) {r : Int} {σ' : mMem}    {σ : mMem} {H : Heap} {locs : List Loc} {ls : Array Slot} (hw : mWd D cy ad bs true mN σ s.heap H locs) (hl : lv_has ls 3 [(0, .ref (ad 26)), (1, .ref (ad w1))]) (hf : g_X0_isAsIn_b58 F w1  σ = some (r, σ')) : mGi p l e 2 s m args below meth c D cy ad bs r σ' H locs (F0 m 58 ls []) := by
  obtain ⟨⟨hx, hb, -, -, -⟩, -⟩ := id X
  unfold g_X0_isAsIn_b58 at hf
  refine lv_iconst (v := mI 0) hx hb dX0_isAsIn_58 rfl ?_
  exact w_X0_isAsIn_b59 X hw1 hw (lv_sub hl [0, 1] rfl) hf
def g_X0_isAsIn (F : Nat) (w1 : Nat) (x2 : Int) (σ : mMem) : mRs := mob (g_X10_of F 29 x2 0 σ) (fun r1 σ2 => mob (g_X10_of F w1 x2 0 σ2) (fun r3 σ4 => if ¬ mw r1 = mw r3 then (g_X0_isAsIn_b58 F w1 σ4) else (mob (g_X10_of F 29 x2 1 σ4) (fun r5 σ6 => mob (g_X10_of F w1 x2 1 σ6) (fun r7 σ8 => if ¬ mw r5 = mw r7 then (g_X0_isAsIn_b58 F w1 σ8) else (mob (g_X10_of F 29 x2 2 σ8) (fun r9 σ10 => mob (g_X10_of F w1 x2 2 σ10) (fun r11 σ12 => if ¬ mw r9 = mw r11 then (g_X0_isAsIn_b58 F w1 σ12) else (g_X0_isAsIn_b59 F w1 1 σ12)))))))))
set_option maxRecDepth 100000 in
set_option maxHeartbeats 4000000 in
theorem c_X0_isAsIn (l : Launch) (D : va_G) (cy : Nat → ClassId) (ad : Nat → Nat) (bs : Nat) (F : Nat) (w1 : Nat) (x2 : Int) (σ : mMem) (r : Int) (σ' : mMem) (hw1 : mWorld w1) (hf : g_X0_isAsIn F w1 x2 σ = some (r, σ')) : mCi l D cy ad bs yX0_isAsIn cX0_isAsIn 3 (some .boolean) 2 [.ref (ad 26), .ref (ad w1), .int (mI x2)] σ r σ' := by
  refine mCi.of (lv := [(0, .ref (ad 26)), (1, .ref (ad w1)), (2, .int (mI x2))]) km_X0_isAsIn.2.2.2.2.2 (Nat.le_of_ble_eq_true rfl) rfl (fun p e s m args below meth c H locs ls X hw hl => ?_)
  obtain ⟨⟨hx, hb, -, -, -⟩, -⟩ := id X
  unfold g_X0_isAsIn at hf
  refine lv_aload_n hx hb dX0_isAsIn_0 rfl (lv_at hl 0 rfl) ?_
  refine r_getr 29 X hw sh_26 fd_0_0 rfl rfl lf_X0_25 dX0_isAsIn_1 ?_
  refine lv_iload_n hx hb dX0_isAsIn_4 rfl (lv_at hl 2 rfl) ?_
  refine lv_iconst (v := mI 0) hx hb dX0_isAsIn_5 rfl ?_
  refine r_cvi (rest := []) [.int (mI x2), .int (mI 0)] X hw (fun ra σa h => c_X10_of l D cy ad bs F 29 x2 0 σ ra σa sh_w29 h) sh_29 rfl (by decide) rfl km_X10_of kv_X10_of lm_X0_45 dX0_isAsIn_6 hl.1 rfl rfl (Nat.le_of_ble_eq_true rfl) ⟨by decide, by decide⟩ ⟨Nat.zero_le _, Nat.zero_le _⟩ hf (fun r1 σ2 _ hf H locs hw => ?_)
  refine lv_aload_n hx hb dX0_isAsIn_9 rfl (lv_at hl 1 rfl) ?_
  refine lv_iload_n hx hb dX0_isAsIn_10 rfl (lv_at hl 2 rfl) ?_
  refine lv_iconst (v := mI 0) hx hb dX0_isAsIn_11 rfl ?_
  refine r_cvi (rest := [.int (mI r1)]) [.int (mI x2), .int (mI 0)] X hw (fun ra σa h => c_X10_of l D cy ad bs F w1 x2 0 σ2 ra σa hw1 h) hw1.1 rfl (by decide) rfl km_X10_of kv_X10_of lm_X0_45 dX0_isAsIn_12 hl.1 rfl rfl (Nat.le_of_ble_eq_true rfl) ⟨by decide, by decide⟩ ⟨Nat.zero_le _, Nat.zero_le _⟩ hf (fun r3 σ4 _ hf H locs hw => ?_)
  refine r_icmp_ne (tgt := 58) X dX0_isAsIn_15 (by decide) hf (fun hc hf => ?_) (fun hc hf => ?_)
  · exact w_X0_isAsIn_b58 X hw1 hw (lv_sub hl [0, 1] rfl) hf
  · refine lv_aload_n hx hb dX0_isAsIn_18 rfl (lv_at hl 0 rfl) ?_
    refine r_getr 29 X hw sh_26 fd_0_0 rfl rfl lf_X0_25 dX0_isAsIn_19 ?_
    refine lv_iload_n hx hb dX0_isAsIn_22 rfl (lv_at hl 2 rfl) ?_
    refine lv_iconst (v := mI 1) hx hb dX0_isAsIn_23 rfl ?_
    refine r_cvi (rest := []) [.int (mI x2), .int (mI 1)] X hw (fun ra σa h => c_X10_of l D cy ad bs F 29 x2 1 σ4 ra σa sh_w29 h) sh_29 rfl (by decide) rfl km_X10_of kv_X10_of lm_X0_45 dX0_isAsIn_24 hl.1 rfl rfl (Nat.le_of_ble_eq_true rfl) ⟨by decide, by decide⟩ ⟨Nat.zero_le _, Nat.zero_le _⟩ hf (fun r5 σ6 _ hf H locs hw => ?_)
    refine lv_aload_n hx hb dX0_isAsIn_27 rfl (lv_at hl 1 rfl) ?_
    refine lv_iload_n hx hb dX0_isAsIn_28 rfl (lv_at hl 2 rfl) ?_
    refine lv_iconst (v := mI 1) hx hb dX0_isAsIn_29 rfl ?_
    refine r_cvi (rest := [.int (mI r5)]) [.int (mI x2), .int (mI 1)] X hw (fun ra σa h => c_X10_of l D cy ad bs F w1 x2 1 σ6 ra σa hw1 h) hw1.1 rfl (by decide) rfl km_X10_of kv_X10_of lm_X0_45 dX0_isAsIn_30 hl.1 rfl rfl (Nat.le_of_ble_eq_true rfl) ⟨by decide, by decide⟩ ⟨Nat.zero_le _, Nat.zero_le _⟩ hf (fun r7 σ8 _ hf H locs hw => ?_)
    refine r_icmp_ne (tgt := 58) X dX0_isAsIn_33 (by decide) hf (fun hc hf => ?_) (fun hc hf => ?_)
    · exact w_X0_isAsIn_b58 X hw1 hw (lv_sub hl [0, 1] rfl) hf
    · refine lv_aload_n hx hb dX0_isAsIn_36 rfl (lv_at hl 0 rfl) ?_
      refine r_getr 29 X hw sh_26 fd_0_0 rfl rfl lf_X0_25 dX0_isAsIn_37 ?_
      refine lv_iload_n hx hb dX0_isAsIn_40 rfl (lv_at hl 2 rfl) ?_
      refine lv_iconst (v := mI 2) hx hb dX0_isAsIn_41 rfl ?_
      refine r_cvi (rest := []) [.int (mI x2), .int (mI 2)] X hw (fun ra σa h => c_X10_of l D cy ad bs F 29 x2 2 σ8 ra σa sh_w29 h) sh_29 rfl (by decide) rfl km_X10_of kv_X10_of lm_X0_45 dX0_isAsIn_42 hl.1 rfl rfl (Nat.le_of_ble_eq_true rfl) ⟨by decide, by decide⟩ ⟨Nat.zero_le _, Nat.zero_le _⟩ hf (fun r9 σ10 _ hf H locs hw => ?_)
      refine lv_aload_n hx hb dX0_isAsIn_45 rfl (lv_at hl 1 rfl) ?_
      refine lv_iload_n hx hb dX0_isAsIn_46 rfl (lv_at hl 2 rfl) ?_
      refine lv_iconst (v := mI 2) hx hb dX0_isAsIn_47 rfl ?_
      refine r_cvi (rest := [.int (mI r9)]) [.int (mI x2), .int (mI 2)] X hw (fun ra σa h => c_X10_of l D cy ad bs F w1 x2 2 σ10 ra σa hw1 h) hw1.1 rfl (by decide) rfl km_X10_of kv_X10_of lm_X0_45 dX0_isAsIn_48 hl.1 rfl rfl (Nat.le_of_ble_eq_true rfl) ⟨by decide, by decide⟩ ⟨Nat.zero_le _, Nat.zero_le _⟩ hf (fun r11 σ12 _ hf H locs hw => ?_)
      refine r_icmp_ne (tgt := 58) X dX0_isAsIn_51 (by decide) hf (fun hc hf => ?_) (fun hc hf => ?_)
      · exact w_X0_isAsIn_b58 X hw1 hw (lv_sub hl [0, 1] rfl) hf
      · refine lv_iconst (v := mI 1) hx hb dX0_isAsIn_54 rfl ?_
        refine lv_goto (tgt := 59) hx hb dX0_isAsIn_55 (by decide) ?_
        exact w_X0_isAsIn_b59 X hw1 hw (lv_sub hl [0, 1] rfl) hf
def g_X10_comingSteps (F : Nat) (o : Nat) (x1 : Int) (σ : mMem) : mRs := mob (g_J9_min_7cf53 F x1 (999 - (σ o 4)) σ) (fun r1 σ2 => some (r1, σ2))
set_option maxRecDepth 100000 in
set_option maxHeartbeats 4000000 in
theorem c_X10_comingSteps (l : Launch) (D : va_G) (cy : Nat → ClassId) (ad : Nat → Nat) (bs : Nat) (F : Nat) (o : Nat) (x1 : Int) (σ : mMem) (r : Int) (σ' : mMem) (ho : mWorld o) (hf : g_X10_comingSteps F o x1 σ = some (r, σ')) : mCi l D cy ad bs yX10_comingSteps cX10_comingSteps 2 (some .int) 2 [.ref (ad o), .int (mI x1)] σ r σ' := by
  refine mCi.of (lv := [(0, .ref (ad o)), (1, .int (mI x1))]) km_X10_comingSteps.2.2.2.2.2 (Nat.le_of_ble_eq_true rfl) rfl (fun p e s m args below meth c H locs ls X hw hl => ?_)
  obtain ⟨⟨hx, hb, -, -, -⟩, -⟩ := id X
  unfold g_X10_comingSteps at hf
  refine lv_iload_n hx hb dX10_comingSteps_0 rfl (lv_at hl 1 rfl) ?_
  refine lv_sipush (v := mI 999) hx hb dX10_comingSteps_1 (by decide) ?_
  refine lv_aload_n hx hb dX10_comingSteps_4 rfl (lv_at hl 0 rfl) ?_
  refine r_geti X hw ho.1 fd_10_4 rfl lf_X10_32 dX10_comingSteps_5 ?_
  refine r_isub X dX10_comingSteps_8 ?_
  refine r_csi (rest := []) [.int (mI x1), .int (mI (999 - (σ o 4)))] X hw (fun ra σa h => c_J9_min_7cf53 l D cy ad bs F x1 (999 - (σ o 4)) σ ra σa  h) km_J9_min_7cf53 ks_J9_min_7cf53 lm_X10_69 dX10_comingSteps_9 hl.1 rfl rfl (Nat.le_of_ble_eq_true rfl) ⟨by decide, by decide⟩ ⟨Nat.zero_le _, Nat.zero_le _⟩ hf (fun r1 σ2 _ hf H locs hw => ?_)
  exact r_iret X hw dX10_comingSteps_12 hf
def g_X0_stepsRound_h18 (F : Nat) (w1 : Nat)  : Nat → Int → Int → Int → mMem → mRs
  | 0, _, _, _, _ => none
  | n + 1, x2, x3, x4, σ => if mw x3 < mw x4 then (some ((-1), σ)) else (mob (g_X10_pass F 29 0 0 σ) (fun r105 σ106 => mob (g_X0_isAsIn F w1 x2 σ106) (fun r107 σ108 => if mw r107 = 0 then ((g_X0_stepsRound_h18 F w1 n) x2 x3 (x4 + 1) σ108) else (some (x4, σ108)))))
set_option maxRecDepth 100000 in
set_option maxHeartbeats 4000000 in
theorem w_X0_stepsRound_h18 {p : Program} {l : Launch} {e : Env} {s : State} {m : MethodId} {args : Array Value} {below : List Frame} {meth : Method} {c : Code} {D : va_G} {cy : Nat → ClassId} {ad : Nat → Nat} {bs : Nat} {F : Nat} {w1 : Nat} (X : mCx p m c cX0_stepsRound 5 s args RX0 meth D cy (some .int)) (hw1 : mWorld w1) {r : Int} {σ' : mMem}   (n : Nat) : ∀ {x2 x3 x4 : Int} {σ : mMem} {H : Heap} {locs : List Loc} {ls : Array Slot} (_ : mWd D cy ad bs true mN σ s.heap H locs) (_ : lv_has ls 5 [(0, .ref (ad 26)), (1, .ref (ad w1)), (2, .int (mI x2)), (3, .int (mI x3)), (4, .int (mI x4))]) (_ : g_X0_stepsRound_h18 F w1 n x2 x3 x4 σ = some (r, σ')), mGi p l e 6 s m args below meth c D cy ad bs r σ' H locs (F0 m 18 ls []) := by
  obtain ⟨⟨hx, hb, -, -, -⟩, -⟩ := id X
  induction n with
  | zero =>
    intro x2 x3 x4 σ H locs ls hw hl hf
    unfold g_X0_stepsRound_h18 at hf
    cases hf
  | succ n ih =>
    have hk18 : ∀ (x2 x3 x4 : Int) (σ : mMem) (H : Heap) (locs : List Loc) (ls : Array Slot), mWd D cy ad bs true mN σ s.heap H locs → lv_has ls 5 [(0, .ref (ad 26)), (1, .ref (ad w1)), (2, .int (mI x2)), (3, .int (mI x3)), (4, .int (mI x4))] → g_X0_stepsRound_h18 F w1 n x2 x3 x4 σ = some (r, σ') → mGi p l e 6 s m args below meth c D cy ad bs r σ' H locs (F0 m 18 ls []) := fun x2 x3 x4 σ H locs ls hw hl hf => ih hw hl hf
    intro x2 x3 x4 σ H locs ls hw hl hf
    unfold g_X0_stepsRound_h18 at hf
    refine lv_iload hx hb dX0_stepsRound_18 (lv_at hl 4 rfl) ?_
    refine lv_iload_n hx hb dX0_stepsRound_20 rfl (lv_at hl 3 rfl) ?_
    refine r_icmp_gt (tgt := 51) X dX0_stepsRound_21 (by decide) hf (fun hc hf => ?_) (fun hc hf => ?_)
    · refine lv_iconst (v := mI (-1)) hx hb dX0_stepsRound_51 rfl ?_
      exact r_iret X hw dX0_stepsRound_52 hf
    · refine lv_aload_n hx hb dX0_stepsRound_24 rfl (lv_at hl 0 rfl) ?_
      refine r_getr 29 X hw sh_26 fd_0_0 rfl rfl lf_X0_25 dX0_stepsRound_25 ?_
      refine lv_iconst (v := mI 0) hx hb dX0_stepsRound_28 rfl ?_
      refine lv_iconst (v := mI 0) hx hb dX0_stepsRound_29 rfl ?_
      refine r_cvv (rest := []) [.int (mI 0), .int (mI 0)] X hw (fun ra σa h => c_X10_pass l D cy ad bs F 29 0 0 σ ra σa sh_w29 h) sh_29 rfl (by decide) rfl km_X10_pass kv_X10_pass lm_X0_41 dX0_stepsRound_30 hl.1 rfl rfl (Nat.le_of_ble_eq_true rfl) ⟨by decide, by decide⟩ ⟨Nat.zero_le _, Nat.zero_le _⟩ hf (fun r105 σ106 _ hf H locs hw => ?_)
      refine lv_aload_n hx hb dX0_stepsRound_33 rfl (lv_at hl 0 rfl) ?_
      refine lv_aload_n hx hb dX0_stepsRound_34 rfl (lv_at hl 1 rfl) ?_
      refine lv_iload_n hx hb dX0_stepsRound_35 rfl (lv_at hl 2 rfl) ?_
      refine r_cvi (rest := []) [.ref (ad w1), .int (mI x2)] X hw (fun ra σa h => c_X0_isAsIn l D cy ad bs F w1 x2 σ106 ra σa hw1 h) sh_26 rfl (by decide) rfl km_X0_isAsIn kv_X0_isAsIn lm_X0_53 dX0_stepsRound_36 hl.1 rfl rfl (Nat.le_of_ble_eq_true rfl) ⟨by decide, by decide⟩ ⟨Nat.zero_le _, Nat.zero_le _⟩ hf (fun r107 σ108 _ hf H locs hw => ?_)
      refine r_if_eq (tgt := 45) X dX0_stepsRound_39 (by decide) hf (fun hc hf => ?_) (fun hc hf => ?_)
      · refine lv_iinc (v := mI (x4 + 1)) (lv' := [(4, .int (mI (x4 + 1))), (0, .ref (ad 26)), (1, .ref (ad w1)), (2, .int (mI x2)), (3, .int (mI x3))]) hx hb dX0_stepsRound_45 hl (k := 4) rfl (mI_add _ _) (by decide) rfl (fun ls hl => ?_)
        refine lv_goto (tgt := 18) hx hb dX0_stepsRound_48 (by decide) ?_
        exact hk18 x2 x3 (x4 + 1) σ108 _ _ _ hw (lv_sub hl [1, 2, 3, 4, 0] rfl) hf
      · refine lv_iload hx hb dX0_stepsRound_42 (lv_at hl 4 rfl) ?_
        exact r_iret X hw dX0_stepsRound_44 hf
def g_X0_stepsRound (F : Nat) (w1 : Nat) (x2 : Int) (σ : mMem) : mRs := mob (g_X10_copyFrom F 29 w1 σ) (fun r1 σ2 => mob (g_X10_comingSteps F w1 80 σ2) (fun r3 σ4 => g_X0_stepsRound_h18 F w1 F x2 r3 1 σ4))
set_option maxRecDepth 100000 in
set_option maxHeartbeats 4000000 in
theorem c_X0_stepsRound (l : Launch) (D : va_G) (cy : Nat → ClassId) (ad : Nat → Nat) (bs : Nat) (F : Nat) (w1 : Nat) (x2 : Int) (σ : mMem) (r : Int) (σ' : mMem) (hw1 : mWorld w1) (hf : g_X0_stepsRound F w1 x2 σ = some (r, σ')) : mCi l D cy ad bs yX0_stepsRound cX0_stepsRound 5 (some .int) 6 [.ref (ad 26), .ref (ad w1), .int (mI x2)] σ r σ' := by
  refine mCi.of (lv := [(0, .ref (ad 26)), (1, .ref (ad w1)), (2, .int (mI x2))]) km_X0_stepsRound.2.2.2.2.2 (Nat.le_of_ble_eq_true rfl) rfl (fun p e s m args below meth c H locs ls X hw hl => ?_)
  obtain ⟨⟨hx, hb, -, -, -⟩, -⟩ := id X
  unfold g_X0_stepsRound at hf
  refine lv_aload_n hx hb dX0_stepsRound_0 rfl (lv_at hl 0 rfl) ?_
  refine r_getr 29 X hw sh_26 fd_0_0 rfl rfl lf_X0_25 dX0_stepsRound_1 ?_
  refine lv_aload_n hx hb dX0_stepsRound_4 rfl (lv_at hl 1 rfl) ?_
  refine r_cvv (rest := []) [.ref (ad w1)] X hw (fun ra σa h => c_X10_copyFrom l D cy ad bs F 29 w1 σ ra σa sh_w29 hw1 h) sh_29 rfl (by decide) rfl km_X10_copyFrom kv_X10_copyFrom lm_X0_33 dX0_stepsRound_5 hl.1 rfl rfl (Nat.le_of_ble_eq_true rfl) ⟨by decide, by decide⟩ ⟨Nat.zero_le _, Nat.zero_le _⟩ hf (fun r1 σ2 _ hf H locs hw => ?_)
  refine lv_aload_n hx hb dX0_stepsRound_8 rfl (lv_at hl 1 rfl) ?_
  refine lv_bipush (v := mI 80) hx hb dX0_stepsRound_9 (by decide) ?_
  refine r_cvi (rest := []) [.int (mI 80)] X hw (fun ra σa h => c_X10_comingSteps l D cy ad bs F w1 80 σ2 ra σa hw1 h) hw1.1 rfl (by decide) rfl km_X10_comingSteps kv_X10_comingSteps lm_X0_49 dX0_stepsRound_11 hl.1 rfl rfl (Nat.le_of_ble_eq_true rfl) ⟨by decide, by decide⟩ ⟨Nat.zero_le _, Nat.zero_le _⟩ hf (fun r3 σ4 _ hf H locs hw => ?_)
  refine lv_istore_n (lv' := [(3, .int (mI r3)), (0, .ref (ad 26)), (1, .ref (ad w1)), (2, .int (mI x2))]) hx hb dX0_stepsRound_14 rfl hl (by decide) rfl (fun ls hl => ?_)
  refine lv_iconst (v := mI 1) hx hb dX0_stepsRound_15 rfl ?_
  refine lv_istore (lv' := [(4, .int (mI 1)), (3, .int (mI r3)), (0, .ref (ad 26)), (1, .ref (ad w1)), (2, .int (mI x2))]) hx hb dX0_stepsRound_16 hl (by decide) rfl (fun ls hl => ?_)
  exact w_X0_stepsRound_h18 X hw1 _ hw (lv_sub hl [2, 3, 4, 1, 0] rfl) hf
def g_X0_stepsToLoss_b40 (F : Nat) (w1 : Nat) (k19 : Int → Int → Int → Int → mMem → mRs) (x2 x3 x4 x5 : Int) (σ : mMem) : mRs := mob (g_X10_of F 29 x2 4 σ) (fun r207 σ208 => if mw r207 < mw x3 then (k19 x2 x3 x4 (x5 + 1) σ208) else (some (x5, σ208)))
set_option maxRecDepth 100000 in
set_option maxHeartbeats 4000000 in
theorem w_X0_stepsToLoss_b40 {p : Program} {l : Launch} {e : Env} {s : State} {m : MethodId} {args : Array Value} {below : List Frame} {meth : Method} {c : Code} {D : va_G} {cy : Nat → ClassId} {ad : Nat → Nat} {bs : Nat} {F : Nat} {w1 : Nat} (X : mCx p m c cX0_stepsToLoss 6 s args RX0 meth D cy (some .int)) (hw1 : mWorld w1) {r : Int} {σ' : mMem} {k19 : Int → Int → Int → Int → mMem → mRs} (hk19 : ∀ (x2 x3 x4 x5 : Int) (σ : mMem) (H : Heap) (locs : List Loc) (ls : Array Slot), mWd D cy ad bs true mN σ s.heap H locs → lv_has ls 6 [(0, .ref (ad 26)), (1, .ref (ad w1)), (2, .int (mI x2)), (3, .int (mI x3)), (4, .int (mI x4)), (5, .int (mI x5))] → k19 x2 x3 x4 x5 σ = some (r, σ') → mGi p l e 6 s m args below meth c D cy ad bs r σ' H locs (F0 m 19 ls [])) {x2 x3 x4 x5 : Int} {σ : mMem} {H : Heap} {locs : List Loc} {ls : Array Slot} (hw : mWd D cy ad bs true mN σ s.heap H locs) (hl : lv_has ls 6 [(0, .ref (ad 26)), (1, .ref (ad w1)), (2, .int (mI x2)), (3, .int (mI x3)), (4, .int (mI x4)), (5, .int (mI x5))]) (hf : g_X0_stepsToLoss_b40 F w1 k19 x2 x3 x4 x5 σ = some (r, σ')) : mGi p l e 6 s m args below meth c D cy ad bs r σ' H locs (F0 m 40 ls []) := by
  obtain ⟨⟨hx, hb, -, -, -⟩, -⟩ := id X
  unfold g_X0_stepsToLoss_b40 at hf
  refine lv_aload_n hx hb dX0_stepsToLoss_40 rfl (lv_at hl 0 rfl) ?_
  refine r_getr 29 X hw sh_26 fd_0_0 rfl rfl lf_X0_25 dX0_stepsToLoss_41 ?_
  refine lv_iload_n hx hb dX0_stepsToLoss_44 rfl (lv_at hl 2 rfl) ?_
  refine lv_iconst (v := mI 4) hx hb dX0_stepsToLoss_45 rfl ?_
  refine r_cvi (rest := []) [.int (mI x2), .int (mI 4)] X hw (fun ra σa h => c_X10_of l D cy ad bs F 29 x2 4 σ ra σa sh_w29 h) sh_29 rfl (by decide) rfl km_X10_of kv_X10_of lm_X0_45 dX0_stepsToLoss_46 hl.1 rfl rfl (Nat.le_of_ble_eq_true rfl) ⟨by decide, by decide⟩ ⟨Nat.zero_le _, Nat.zero_le _⟩ hf (fun r207 σ208 _ hf H locs hw => ?_)
  refine lv_iload_n hx hb dX0_stepsToLoss_49 rfl (lv_at hl 3 rfl) ?_
  refine r_icmp_lt (tgt := 56) X dX0_stepsToLoss_50 (by decide) hf (fun hc hf => ?_) (fun hc hf => ?_)
  · refine lv_iinc (v := mI (x5 + 1)) (lv' := [(5, .int (mI (x5 + 1))), (0, .ref (ad 26)), (1, .ref (ad w1)), (2, .int (mI x2)), (3, .int (mI x3)), (4, .int (mI x4))]) hx hb dX0_stepsToLoss_56 hl (k := 5) rfl (mI_add _ _) (by decide) rfl (fun ls hl => ?_)
    refine lv_goto (tgt := 19) hx hb dX0_stepsToLoss_59 (by decide) ?_
    exact hk19 x2 x3 x4 (x5 + 1) σ208 _ _ _ hw (lv_sub hl [1, 2, 3, 4, 5, 0] rfl) hf
  · refine lv_iload hx hb dX0_stepsToLoss_53 (lv_at hl 5 rfl) ?_
    exact r_iret X hw dX0_stepsToLoss_55 hf
def g_X0_stepsToLoss_h19 (F : Nat) (w1 : Nat)  : Nat → Int → Int → Int → Int → mMem → mRs
  | 0, _, _, _, _, _ => none
  | n + 1, x2, x3, x4, x5, σ => if mw x4 < mw x5 then (some ((-1), σ)) else (if mw x5 ≤ 0 then (g_X0_stepsToLoss_b40 F w1 (g_X0_stepsToLoss_h19 F w1 n) x2 x3 x4 x5 σ) else (mob (g_X10_pass F 29 0 0 σ) (fun r105 σ106 => g_X0_stepsToLoss_b40 F w1 (g_X0_stepsToLoss_h19 F w1 n) x2 x3 x4 x5 σ106)))
set_option maxRecDepth 100000 in
set_option maxHeartbeats 4000000 in
theorem w_X0_stepsToLoss_h19 {p : Program} {l : Launch} {e : Env} {s : State} {m : MethodId} {args : Array Value} {below : List Frame} {meth : Method} {c : Code} {D : va_G} {cy : Nat → ClassId} {ad : Nat → Nat} {bs : Nat} {F : Nat} {w1 : Nat} (X : mCx p m c cX0_stepsToLoss 6 s args RX0 meth D cy (some .int)) (hw1 : mWorld w1) {r : Int} {σ' : mMem}   (n : Nat) : ∀ {x2 x3 x4 x5 : Int} {σ : mMem} {H : Heap} {locs : List Loc} {ls : Array Slot} (_ : mWd D cy ad bs true mN σ s.heap H locs) (_ : lv_has ls 6 [(0, .ref (ad 26)), (1, .ref (ad w1)), (2, .int (mI x2)), (3, .int (mI x3)), (4, .int (mI x4)), (5, .int (mI x5))]) (_ : g_X0_stepsToLoss_h19 F w1 n x2 x3 x4 x5 σ = some (r, σ')), mGi p l e 6 s m args below meth c D cy ad bs r σ' H locs (F0 m 19 ls []) := by
  obtain ⟨⟨hx, hb, -, -, -⟩, -⟩ := id X
  induction n with
  | zero =>
    intro x2 x3 x4 x5 σ H locs ls hw hl hf
    unfold g_X0_stepsToLoss_h19 at hf
    cases hf
  | succ n ih =>
    have hk19 : ∀ (x2 x3 x4 x5 : Int) (σ : mMem) (H : Heap) (locs : List Loc) (ls : Array Slot), mWd D cy ad bs true mN σ s.heap H locs → lv_has ls 6 [(0, .ref (ad 26)), (1, .ref (ad w1)), (2, .int (mI x2)), (3, .int (mI x3)), (4, .int (mI x4)), (5, .int (mI x5))] → g_X0_stepsToLoss_h19 F w1 n x2 x3 x4 x5 σ = some (r, σ') → mGi p l e 6 s m args below meth c D cy ad bs r σ' H locs (F0 m 19 ls []) := fun x2 x3 x4 x5 σ H locs ls hw hl hf => ih hw hl hf
    intro x2 x3 x4 x5 σ H locs ls hw hl hf
    unfold g_X0_stepsToLoss_h19 at hf
    refine lv_iload hx hb dX0_stepsToLoss_19 (lv_at hl 5 rfl) ?_
    refine lv_iload hx hb dX0_stepsToLoss_21 (lv_at hl 4 rfl) ?_
    refine r_icmp_gt (tgt := 62) X dX0_stepsToLoss_23 (by decide) hf (fun hc hf => ?_) (fun hc hf => ?_)
    · refine lv_iconst (v := mI (-1)) hx hb dX0_stepsToLoss_62 rfl ?_
      exact r_iret X hw dX0_stepsToLoss_63 hf
    · refine lv_iload hx hb dX0_stepsToLoss_26 (lv_at hl 5 rfl) ?_
      refine r_if_le (tgt := 40) X dX0_stepsToLoss_28 (by decide) hf (fun hc hf => ?_) (fun hc hf => ?_)
      · exact w_X0_stepsToLoss_b40 X hw1 hk19 hw (lv_sub hl [0, 1, 2, 3, 4, 5] rfl) hf
      · refine lv_aload_n hx hb dX0_stepsToLoss_31 rfl (lv_at hl 0 rfl) ?_
        refine r_getr 29 X hw sh_26 fd_0_0 rfl rfl lf_X0_25 dX0_stepsToLoss_32 ?_
        refine lv_iconst (v := mI 0) hx hb dX0_stepsToLoss_35 rfl ?_
        refine lv_iconst (v := mI 0) hx hb dX0_stepsToLoss_36 rfl ?_
        refine r_cvv (rest := []) [.int (mI 0), .int (mI 0)] X hw (fun ra σa h => c_X10_pass l D cy ad bs F 29 0 0 σ ra σa sh_w29 h) sh_29 rfl (by decide) rfl km_X10_pass kv_X10_pass lm_X0_41 dX0_stepsToLoss_37 hl.1 rfl rfl (Nat.le_of_ble_eq_true rfl) ⟨by decide, by decide⟩ ⟨Nat.zero_le _, Nat.zero_le _⟩ hf (fun r105 σ106 _ hf H locs hw => ?_)
        exact w_X0_stepsToLoss_b40 X hw1 hk19 hw (lv_sub hl [0, 1, 2, 3, 4, 5] rfl) hf
def g_X0_stepsToLoss (F : Nat) (w1 : Nat) (x2 x3 : Int) (σ : mMem) : mRs := mob (g_X10_copyFrom F 29 w1 σ) (fun r1 σ2 => mob (g_X10_comingSteps F w1 80 σ2) (fun r3 σ4 => g_X0_stepsToLoss_h19 F w1 F x2 x3 r3 0 σ4))
set_option maxRecDepth 100000 in
set_option maxHeartbeats 4000000 in
theorem c_X0_stepsToLoss (l : Launch) (D : va_G) (cy : Nat → ClassId) (ad : Nat → Nat) (bs : Nat) (F : Nat) (w1 : Nat) (x2 x3 : Int) (σ : mMem) (r : Int) (σ' : mMem) (hw1 : mWorld w1) (hf : g_X0_stepsToLoss F w1 x2 x3 σ = some (r, σ')) : mCi l D cy ad bs yX0_stepsToLoss cX0_stepsToLoss 6 (some .int) 6 [.ref (ad 26), .ref (ad w1), .int (mI x2), .int (mI x3)] σ r σ' := by
  refine mCi.of (lv := [(0, .ref (ad 26)), (1, .ref (ad w1)), (2, .int (mI x2)), (3, .int (mI x3))]) km_X0_stepsToLoss.2.2.2.2.2 (Nat.le_of_ble_eq_true rfl) rfl (fun p e s m args below meth c H locs ls X hw hl => ?_)
  obtain ⟨⟨hx, hb, -, -, -⟩, -⟩ := id X
  unfold g_X0_stepsToLoss at hf
  refine lv_aload_n hx hb dX0_stepsToLoss_0 rfl (lv_at hl 0 rfl) ?_
  refine r_getr 29 X hw sh_26 fd_0_0 rfl rfl lf_X0_25 dX0_stepsToLoss_1 ?_
  refine lv_aload_n hx hb dX0_stepsToLoss_4 rfl (lv_at hl 1 rfl) ?_
  refine r_cvv (rest := []) [.ref (ad w1)] X hw (fun ra σa h => c_X10_copyFrom l D cy ad bs F 29 w1 σ ra σa sh_w29 hw1 h) sh_29 rfl (by decide) rfl km_X10_copyFrom kv_X10_copyFrom lm_X0_33 dX0_stepsToLoss_5 hl.1 rfl rfl (Nat.le_of_ble_eq_true rfl) ⟨by decide, by decide⟩ ⟨Nat.zero_le _, Nat.zero_le _⟩ hf (fun r1 σ2 _ hf H locs hw => ?_)
  refine lv_aload_n hx hb dX0_stepsToLoss_8 rfl (lv_at hl 1 rfl) ?_
  refine lv_bipush (v := mI 80) hx hb dX0_stepsToLoss_9 (by decide) ?_
  refine r_cvi (rest := []) [.int (mI 80)] X hw (fun ra σa h => c_X10_comingSteps l D cy ad bs F w1 80 σ2 ra σa hw1 h) hw1.1 rfl (by decide) rfl km_X10_comingSteps kv_X10_comingSteps lm_X0_49 dX0_stepsToLoss_11 hl.1 rfl rfl (Nat.le_of_ble_eq_true rfl) ⟨by decide, by decide⟩ ⟨Nat.zero_le _, Nat.zero_le _⟩ hf (fun r3 σ4 _ hf H locs hw => ?_)
  refine lv_istore (lv' := [(4, .int (mI r3)), (0, .ref (ad 26)), (1, .ref (ad w1)), (2, .int (mI x2)), (3, .int (mI x3))]) hx hb dX0_stepsToLoss_14 hl (by decide) rfl (fun ls hl => ?_)
  refine lv_iconst (v := mI 0) hx hb dX0_stepsToLoss_16 rfl ?_
  refine lv_istore (lv' := [(5, .int (mI 0)), (4, .int (mI r3)), (0, .ref (ad 26)), (1, .ref (ad w1)), (2, .int (mI x2)), (3, .int (mI x3))]) hx hb dX0_stepsToLoss_17 hl (by decide) rfl (fun ls hl => ?_)
  exact w_X0_stepsToLoss_h19 X hw1 _ hw (lv_sub hl [2, 3, 4, 5, 1, 0] rfl) hf
def g_X0_firstJam_b53 (F : Nat) (w1 : Nat) (k17 : Int → Int → mMem → mRs) (x2 x3 : Int) (σ : mMem) : mRs := k17 x2 (x3 + 1) σ
set_option maxRecDepth 100000 in
set_option maxHeartbeats 4000000 in
theorem w_X0_firstJam_b53 {p : Program} {l : Launch} {e : Env} {s : State} {m : MethodId} {args : Array Value} {below : List Frame} {meth : Method} {c : Code} {D : va_G} {cy : Nat → ClassId} {ad : Nat → Nat} {bs : Nat} {F : Nat} {w1 : Nat} (X : mCx p m c cX0_firstJam 4 s args RX0 meth D cy (some .int)) (hw1 : mWorld w1) {r : Int} {σ' : mMem} {k17 : Int → Int → mMem → mRs} (hk17 : ∀ (x2 x3 : Int) (σ : mMem) (H : Heap) (locs : List Loc) (ls : Array Slot), mWd D cy ad bs true mN σ s.heap H locs → lv_has ls 4 [(0, .ref (ad 26)), (1, .ref (ad w1)), (2, .int (mI x2)), (3, .int (mI x3))] → k17 x2 x3 σ = some (r, σ') → mGi p l e 6 s m args below meth c D cy ad bs r σ' H locs (F0 m 17 ls [])) {x2 x3 : Int} {σ : mMem} {H : Heap} {locs : List Loc} {ls : Array Slot} (hw : mWd D cy ad bs true mN σ s.heap H locs) (hl : lv_has ls 4 [(0, .ref (ad 26)), (1, .ref (ad w1)), (2, .int (mI x2)), (3, .int (mI x3))]) (hf : g_X0_firstJam_b53 F w1 k17 x2 x3 σ = some (r, σ')) : mGi p l e 6 s m args below meth c D cy ad bs r σ' H locs (F0 m 53 ls []) := by
  obtain ⟨⟨hx, hb, -, -, -⟩, -⟩ := id X
  unfold g_X0_firstJam_b53 at hf
  refine lv_iinc (v := mI (x3 + 1)) (lv' := [(3, .int (mI (x3 + 1))), (0, .ref (ad 26)), (1, .ref (ad w1)), (2, .int (mI x2))]) hx hb dX0_firstJam_53 hl (k := 3) rfl (mI_add _ _) (by decide) rfl (fun ls hl => ?_)
  refine lv_goto (tgt := 17) hx hb dX0_firstJam_56 (by decide) ?_
  exact hk17 x2 (x3 + 1) σ _ _ _ hw (lv_sub hl [1, 2, 3, 0] rfl) hf
def g_X0_firstJam_h17 (F : Nat) (w1 : Nat)  : Nat → Int → Int → mMem → mRs
  | 0, _, _, _ => none
  | n + 1, x2, x3, σ => if mw x2 < mw x3 then (some ((-1), σ)) else (mob (g_X10_pass F 29 0 0 σ) (fun r105 σ106 => if mw (σ106 29 7) ≤ 0 then (g_X0_firstJam_b53 F w1 (g_X0_firstJam_h17 F w1 n) x2 x3 σ106) else (if ¬ mw (σ106 29 6) = 0 then (g_X0_firstJam_b53 F w1 (g_X0_firstJam_h17 F w1 n) x2 x3 σ106) else (some (x3, σ106)))))
set_option maxRecDepth 100000 in
set_option maxHeartbeats 4000000 in
theorem w_X0_firstJam_h17 {p : Program} {l : Launch} {e : Env} {s : State} {m : MethodId} {args : Array Value} {below : List Frame} {meth : Method} {c : Code} {D : va_G} {cy : Nat → ClassId} {ad : Nat → Nat} {bs : Nat} {F : Nat} {w1 : Nat} (X : mCx p m c cX0_firstJam 4 s args RX0 meth D cy (some .int)) (hw1 : mWorld w1) {r : Int} {σ' : mMem}   (n : Nat) : ∀ {x2 x3 : Int} {σ : mMem} {H : Heap} {locs : List Loc} {ls : Array Slot} (_ : mWd D cy ad bs true mN σ s.heap H locs) (_ : lv_has ls 4 [(0, .ref (ad 26)), (1, .ref (ad w1)), (2, .int (mI x2)), (3, .int (mI x3))]) (_ : g_X0_firstJam_h17 F w1 n x2 x3 σ = some (r, σ')), mGi p l e 6 s m args below meth c D cy ad bs r σ' H locs (F0 m 17 ls []) := by
  obtain ⟨⟨hx, hb, -, -, -⟩, -⟩ := id X
  induction n with
  | zero =>
    intro x2 x3 σ H locs ls hw hl hf
    unfold g_X0_firstJam_h17 at hf
    cases hf
  | succ n ih =>
    have hk17 : ∀ (x2 x3 : Int) (σ : mMem) (H : Heap) (locs : List Loc) (ls : Array Slot), mWd D cy ad bs true mN σ s.heap H locs → lv_has ls 4 [(0, .ref (ad 26)), (1, .ref (ad w1)), (2, .int (mI x2)), (3, .int (mI x3))] → g_X0_firstJam_h17 F w1 n x2 x3 σ = some (r, σ') → mGi p l e 6 s m args below meth c D cy ad bs r σ' H locs (F0 m 17 ls []) := fun x2 x3 σ H locs ls hw hl hf => ih hw hl hf
    intro x2 x3 σ H locs ls hw hl hf
    unfold g_X0_firstJam_h17 at hf
    refine lv_iload_n hx hb dX0_firstJam_17 rfl (lv_at hl 3 rfl) ?_
    refine lv_iload_n hx hb dX0_firstJam_18 rfl (lv_at hl 2 rfl) ?_
    refine r_icmp_gt (tgt := 59) X dX0_firstJam_19 (by decide) hf (fun hc hf => ?_) (fun hc hf => ?_)
    · refine lv_iconst (v := mI (-1)) hx hb dX0_firstJam_59 rfl ?_
      exact r_iret X hw dX0_firstJam_60 hf
    · refine lv_aload_n hx hb dX0_firstJam_22 rfl (lv_at hl 0 rfl) ?_
      refine r_getr 29 X hw sh_26 fd_0_0 rfl rfl lf_X0_25 dX0_firstJam_23 ?_
      refine lv_iconst (v := mI 0) hx hb dX0_firstJam_26 rfl ?_
      refine lv_iconst (v := mI 0) hx hb dX0_firstJam_27 rfl ?_
      refine r_cvv (rest := []) [.int (mI 0), .int (mI 0)] X hw (fun ra σa h => c_X10_pass l D cy ad bs F 29 0 0 σ ra σa sh_w29 h) sh_29 rfl (by decide) rfl km_X10_pass kv_X10_pass lm_X0_41 dX0_firstJam_28 hl.1 rfl rfl (Nat.le_of_ble_eq_true rfl) ⟨by decide, by decide⟩ ⟨Nat.zero_le _, Nat.zero_le _⟩ hf (fun r105 σ106 _ hf H locs hw => ?_)
      refine lv_aload_n hx hb dX0_firstJam_31 rfl (lv_at hl 0 rfl) ?_
      refine r_getr 29 X hw sh_26 fd_0_0 rfl rfl lf_X0_25 dX0_firstJam_32 ?_
      refine r_geti X hw sh_29 fd_10_7 rfl lf_X0_57 dX0_firstJam_35 ?_
      refine r_if_le (tgt := 53) X dX0_firstJam_38 (by decide) hf (fun hc hf => ?_) (fun hc hf => ?_)
      · exact w_X0_firstJam_b53 X hw1 hk17 hw (lv_sub hl [0, 1, 2, 3] rfl) hf
      · refine lv_aload_n hx hb dX0_firstJam_41 rfl (lv_at hl 0 rfl) ?_
        refine r_getr 29 X hw sh_26 fd_0_0 rfl rfl lf_X0_25 dX0_firstJam_42 ?_
        refine r_geti X hw sh_29 fd_10_6 rfl lf_X0_60 dX0_firstJam_45 ?_
        refine r_if_ne (tgt := 53) X dX0_firstJam_48 (by decide) hf (fun hc hf => ?_) (fun hc hf => ?_)
        · exact w_X0_firstJam_b53 X hw1 hk17 hw (lv_sub hl [0, 1, 2, 3] rfl) hf
        · refine lv_iload_n hx hb dX0_firstJam_51 rfl (lv_at hl 3 rfl) ?_
          exact r_iret X hw dX0_firstJam_52 hf
def g_X0_firstJam (F : Nat) (w1 : Nat) (σ : mMem) : mRs := mob (g_X10_copyFrom F 29 w1 σ) (fun r1 σ2 => mob (g_X10_comingSteps F w1 80 σ2) (fun r3 σ4 => g_X0_firstJam_h17 F w1 F r3 1 σ4))
set_option maxRecDepth 100000 in
set_option maxHeartbeats 4000000 in
theorem c_X0_firstJam (l : Launch) (D : va_G) (cy : Nat → ClassId) (ad : Nat → Nat) (bs : Nat) (F : Nat) (w1 : Nat)  (σ : mMem) (r : Int) (σ' : mMem) (hw1 : mWorld w1) (hf : g_X0_firstJam F w1 σ = some (r, σ')) : mCi l D cy ad bs yX0_firstJam cX0_firstJam 4 (some .int) 6 [.ref (ad 26), .ref (ad w1)] σ r σ' := by
  refine mCi.of (lv := [(0, .ref (ad 26)), (1, .ref (ad w1))]) km_X0_firstJam.2.2.2.2.2 (Nat.le_of_ble_eq_true rfl) rfl (fun p e s m args below meth c H locs ls X hw hl => ?_)
  obtain ⟨⟨hx, hb, -, -, -⟩, -⟩ := id X
  unfold g_X0_firstJam at hf
  refine lv_aload_n hx hb dX0_firstJam_0 rfl (lv_at hl 0 rfl) ?_
  refine r_getr 29 X hw sh_26 fd_0_0 rfl rfl lf_X0_25 dX0_firstJam_1 ?_
  refine lv_aload_n hx hb dX0_firstJam_4 rfl (lv_at hl 1 rfl) ?_
  refine r_cvv (rest := []) [.ref (ad w1)] X hw (fun ra σa h => c_X10_copyFrom l D cy ad bs F 29 w1 σ ra σa sh_w29 hw1 h) sh_29 rfl (by decide) rfl km_X10_copyFrom kv_X10_copyFrom lm_X0_33 dX0_firstJam_5 hl.1 rfl rfl (Nat.le_of_ble_eq_true rfl) ⟨by decide, by decide⟩ ⟨Nat.zero_le _, Nat.zero_le _⟩ hf (fun r1 σ2 _ hf H locs hw => ?_)
  refine lv_aload_n hx hb dX0_firstJam_8 rfl (lv_at hl 1 rfl) ?_
  refine lv_bipush (v := mI 80) hx hb dX0_firstJam_9 (by decide) ?_
  refine r_cvi (rest := []) [.int (mI 80)] X hw (fun ra σa h => c_X10_comingSteps l D cy ad bs F w1 80 σ2 ra σa hw1 h) hw1.1 rfl (by decide) rfl km_X10_comingSteps kv_X10_comingSteps lm_X0_49 dX0_firstJam_11 hl.1 rfl rfl (Nat.le_of_ble_eq_true rfl) ⟨by decide, by decide⟩ ⟨Nat.zero_le _, Nat.zero_le _⟩ hf (fun r3 σ4 _ hf H locs hw => ?_)
  refine lv_istore_n (lv' := [(2, .int (mI r3)), (0, .ref (ad 26)), (1, .ref (ad w1))]) hx hb dX0_firstJam_14 rfl hl (by decide) rfl (fun ls hl => ?_)
  refine lv_iconst (v := mI 1) hx hb dX0_firstJam_15 rfl ?_
  refine lv_istore_n (lv' := [(3, .int (mI 1)), (2, .int (mI r3)), (0, .ref (ad 26)), (1, .ref (ad w1))]) hx hb dX0_firstJam_16 rfl hl (by decide) rfl (fun ls hl => ?_)
  exact w_X0_firstJam_h17 X hw1 _ hw (lv_sub hl [2, 3, 1, 0] rfl) hf
def g_J9_abs_0f7a4_b10 (F : Nat)  (t0 : Int) (σ : mMem) : mRs := some (t0, σ)
set_option maxRecDepth 100000 in
set_option maxHeartbeats 4000000 in
theorem w_J9_abs_0f7a4_b10 {p : Program} {l : Launch} {e : Env} {s : State} {m : MethodId} {args : Array Value} {below : List Frame} {meth : Method} {c : Code} {D : va_G} {cy : Nat → ClassId} {ad : Nat → Nat} {bs : Nat} {F : Nat}  (X : mCx p m c cJ9_abs_0f7a4 1 s args RJ9 meth D cy (some .int))  {r : Int} {σ' : mMem}   {t0 : Int} {σ : mMem} {H : Heap} {locs : List Loc} {ls : Array Slot} (hw : mWd D cy ad bs true mN σ s.heap H locs) (hl : lv_has ls 1 []) (hf : g_J9_abs_0f7a4_b10 F t0 σ = some (r, σ')) : mGi p l e 1 s m args below meth c D cy ad bs r σ' H locs (F0 m 10 ls [.int (mI t0)]) := by
  obtain ⟨⟨hx, hb, -, -, -⟩, -⟩ := id X
  unfold g_J9_abs_0f7a4_b10 at hf
  exact r_iret X hw dJ9_abs_0f7a4_10 hf
def g_J9_abs_0f7a4 (F : Nat) (x0 : Int) (σ : mMem) : mRs := if 0 ≤ mw x0 then (g_J9_abs_0f7a4_b10 F x0 σ) else (g_J9_abs_0f7a4_b10 F (-x0) σ)
set_option maxRecDepth 100000 in
set_option maxHeartbeats 4000000 in
theorem c_J9_abs_0f7a4 (l : Launch) (D : va_G) (cy : Nat → ClassId) (ad : Nat → Nat) (bs : Nat) (F : Nat)  (x0 : Int) (σ : mMem) (r : Int) (σ' : mMem)  (hf : g_J9_abs_0f7a4 F x0 σ = some (r, σ')) : mCi l D cy ad bs yJ9_abs_0f7a4 cJ9_abs_0f7a4 1 (some .int) 1 [.int (mI x0)] σ r σ' := by
  refine mCi.of (lv := [(0, .int (mI x0))]) km_J9_abs_0f7a4.2.2.2.2.2 (Nat.le_of_ble_eq_true rfl) rfl (fun p e s m args below meth c H locs ls X hw hl => ?_)
  obtain ⟨⟨hx, hb, -, -, -⟩, -⟩ := id X
  unfold g_J9_abs_0f7a4 at hf
  refine lv_iload_n hx hb dJ9_abs_0f7a4_0 rfl (lv_at hl 0 rfl) ?_
  refine r_if_ge (tgt := 9) X dJ9_abs_0f7a4_1 (by decide) hf (fun hc hf => ?_) (fun hc hf => ?_)
  · refine lv_iload_n hx hb dJ9_abs_0f7a4_9 rfl (lv_at hl 0 rfl) ?_
    exact w_J9_abs_0f7a4_b10 X hw (lv_sub hl [] rfl) hf
  · refine lv_iload_n hx hb dJ9_abs_0f7a4_4 rfl (lv_at hl 0 rfl) ?_
    refine r_ineg X dJ9_abs_0f7a4_5 ?_
    refine lv_goto (tgt := 10) hx hb dJ9_abs_0f7a4_6 (by decide) ?_
    exact w_J9_abs_0f7a4_b10 X hw (lv_sub hl [] rfl) hf
def g_X0_distance (F : Nat) (x1 x2 : Int) (σ : mMem) : mRs := mob (g_X10_of F 29 x1 0 σ) (fun r1 σ2 => mob (g_X10_of F 29 x2 0 σ2) (fun r3 σ4 => mob (g_J9_abs_0f7a4 F (r1 - r3) σ4) (fun r5 σ6 => mob (g_X10_of F 29 x1 1 σ6) (fun r7 σ8 => mob (g_X10_of F 29 x2 1 σ8) (fun r9 σ10 => mob (g_J9_abs_0f7a4 F (r7 - r9) σ10) (fun r11 σ12 => some (r5 + r11, σ12)))))))
set_option maxRecDepth 100000 in
set_option maxHeartbeats 4000000 in
theorem c_X0_distance (l : Launch) (D : va_G) (cy : Nat → ClassId) (ad : Nat → Nat) (bs : Nat) (F : Nat)  (x1 x2 : Int) (σ : mMem) (r : Int) (σ' : mMem)  (hf : g_X0_distance F x1 x2 σ = some (r, σ')) : mCi l D cy ad bs yX0_distance cX0_distance 3 (some .int) 2 [.ref (ad 26), .int (mI x1), .int (mI x2)] σ r σ' := by
  refine mCi.of (lv := [(0, .ref (ad 26)), (1, .int (mI x1)), (2, .int (mI x2))]) km_X0_distance.2.2.2.2.2 (Nat.le_of_ble_eq_true rfl) rfl (fun p e s m args below meth c H locs ls X hw hl => ?_)
  obtain ⟨⟨hx, hb, -, -, -⟩, -⟩ := id X
  unfold g_X0_distance at hf
  refine lv_aload_n hx hb dX0_distance_0 rfl (lv_at hl 0 rfl) ?_
  refine r_getr 29 X hw sh_26 fd_0_0 rfl rfl lf_X0_25 dX0_distance_1 ?_
  refine lv_iload_n hx hb dX0_distance_4 rfl (lv_at hl 1 rfl) ?_
  refine lv_iconst (v := mI 0) hx hb dX0_distance_5 rfl ?_
  refine r_cvi (rest := []) [.int (mI x1), .int (mI 0)] X hw (fun ra σa h => c_X10_of l D cy ad bs F 29 x1 0 σ ra σa sh_w29 h) sh_29 rfl (by decide) rfl km_X10_of kv_X10_of lm_X0_45 dX0_distance_6 hl.1 rfl rfl (Nat.le_of_ble_eq_true rfl) ⟨by decide, by decide⟩ ⟨Nat.zero_le _, Nat.zero_le _⟩ hf (fun r1 σ2 _ hf H locs hw => ?_)
  refine lv_aload_n hx hb dX0_distance_9 rfl (lv_at hl 0 rfl) ?_
  refine r_getr 29 X hw sh_26 fd_0_0 rfl rfl lf_X0_25 dX0_distance_10 ?_
  refine lv_iload_n hx hb dX0_distance_13 rfl (lv_at hl 2 rfl) ?_
  refine lv_iconst (v := mI 0) hx hb dX0_distance_14 rfl ?_
  refine r_cvi (rest := [.int (mI r1)]) [.int (mI x2), .int (mI 0)] X hw (fun ra σa h => c_X10_of l D cy ad bs F 29 x2 0 σ2 ra σa sh_w29 h) sh_29 rfl (by decide) rfl km_X10_of kv_X10_of lm_X0_45 dX0_distance_15 hl.1 rfl rfl (Nat.le_of_ble_eq_true rfl) ⟨by decide, by decide⟩ ⟨Nat.zero_le _, Nat.zero_le _⟩ hf (fun r3 σ4 _ hf H locs hw => ?_)
  refine r_isub X dX0_distance_18 ?_
  refine r_csi (rest := []) [.int (mI (r1 - r3))] X hw (fun ra σa h => c_J9_abs_0f7a4 l D cy ad bs F (r1 - r3) σ4 ra σa  h) km_J9_abs_0f7a4 ks_J9_abs_0f7a4 lm_X0_71 dX0_distance_19 hl.1 rfl rfl (Nat.le_of_ble_eq_true rfl) ⟨by decide, by decide⟩ ⟨Nat.zero_le _, Nat.zero_le _⟩ hf (fun r5 σ6 _ hf H locs hw => ?_)
  refine lv_aload_n hx hb dX0_distance_22 rfl (lv_at hl 0 rfl) ?_
  refine r_getr 29 X hw sh_26 fd_0_0 rfl rfl lf_X0_25 dX0_distance_23 ?_
  refine lv_iload_n hx hb dX0_distance_26 rfl (lv_at hl 1 rfl) ?_
  refine lv_iconst (v := mI 1) hx hb dX0_distance_27 rfl ?_
  refine r_cvi (rest := [.int (mI r5)]) [.int (mI x1), .int (mI 1)] X hw (fun ra σa h => c_X10_of l D cy ad bs F 29 x1 1 σ6 ra σa sh_w29 h) sh_29 rfl (by decide) rfl km_X10_of kv_X10_of lm_X0_45 dX0_distance_28 hl.1 rfl rfl (Nat.le_of_ble_eq_true rfl) ⟨by decide, by decide⟩ ⟨Nat.zero_le _, Nat.zero_le _⟩ hf (fun r7 σ8 _ hf H locs hw => ?_)
  refine lv_aload_n hx hb dX0_distance_31 rfl (lv_at hl 0 rfl) ?_
  refine r_getr 29 X hw sh_26 fd_0_0 rfl rfl lf_X0_25 dX0_distance_32 ?_
  refine lv_iload_n hx hb dX0_distance_35 rfl (lv_at hl 2 rfl) ?_
  refine lv_iconst (v := mI 1) hx hb dX0_distance_36 rfl ?_
  refine r_cvi (rest := [.int (mI r7), .int (mI r5)]) [.int (mI x2), .int (mI 1)] X hw (fun ra σa h => c_X10_of l D cy ad bs F 29 x2 1 σ8 ra σa sh_w29 h) sh_29 rfl (by decide) rfl km_X10_of kv_X10_of lm_X0_45 dX0_distance_37 hl.1 rfl rfl (Nat.le_of_ble_eq_true rfl) ⟨by decide, by decide⟩ ⟨Nat.zero_le _, Nat.zero_le _⟩ hf (fun r9 σ10 _ hf H locs hw => ?_)
  refine r_isub X dX0_distance_40 ?_
  refine r_csi (rest := [.int (mI r5)]) [.int (mI (r7 - r9))] X hw (fun ra σa h => c_J9_abs_0f7a4 l D cy ad bs F (r7 - r9) σ10 ra σa  h) km_J9_abs_0f7a4 ks_J9_abs_0f7a4 lm_X0_71 dX0_distance_41 hl.1 rfl rfl (Nat.le_of_ble_eq_true rfl) ⟨by decide, by decide⟩ ⟨Nat.zero_le _, Nat.zero_le _⟩ hf (fun r11 σ12 _ hf H locs hw => ?_)
  refine r_iadd X dX0_distance_44 ?_
  exact r_iret X hw dX0_distance_45 hf
def g_X0_nearest_h19 (F : Nat) (w1 : Nat)  : Nat → Int → Int → Int → Int → Int → mMem → mRs
  | 0, _, _, _, _, _, _ => none
  | n + 1, x2, x3, x4, x5, x6, σ => if mw x4 ≤ mw x6 then (some (x5, σ)) else (mob (g_X10_pass F 29 0 0 σ) (fun r105 σ106 => mob (g_X0_distance F x2 x3 σ106) (fun r107 σ108 => mob (g_J9_min_7cf53 F x5 r107 σ108) (fun r109 σ110 => (g_X0_nearest_h19 F w1 n) x2 x3 x4 r109 (x6 + 1) σ110))))
set_option maxRecDepth 100000 in
set_option maxHeartbeats 4000000 in
theorem w_X0_nearest_h19 {p : Program} {l : Launch} {e : Env} {s : State} {m : MethodId} {args : Array Value} {below : List Frame} {meth : Method} {c : Code} {D : va_G} {cy : Nat → ClassId} {ad : Nat → Nat} {bs : Nat} {F : Nat} {w1 : Nat} (X : mCx p m c cX0_nearest 7 s args RX0 meth D cy (some .int)) (hw1 : mWorld w1) {r : Int} {σ' : mMem}   (n : Nat) : ∀ {x2 x3 x4 x5 x6 : Int} {σ : mMem} {H : Heap} {locs : List Loc} {ls : Array Slot} (_ : mWd D cy ad bs true mN σ s.heap H locs) (_ : lv_has ls 7 [(0, .ref (ad 26)), (1, .ref (ad w1)), (2, .int (mI x2)), (3, .int (mI x3)), (4, .int (mI x4)), (5, .int (mI x5)), (6, .int (mI x6))]) (_ : g_X0_nearest_h19 F w1 n x2 x3 x4 x5 x6 σ = some (r, σ')), mGi p l e 6 s m args below meth c D cy ad bs r σ' H locs (F0 m 19 ls []) := by
  obtain ⟨⟨hx, hb, -, -, -⟩, -⟩ := id X
  induction n with
  | zero =>
    intro x2 x3 x4 x5 x6 σ H locs ls hw hl hf
    unfold g_X0_nearest_h19 at hf
    cases hf
  | succ n ih =>
    have hk19 : ∀ (x2 x3 x4 x5 x6 : Int) (σ : mMem) (H : Heap) (locs : List Loc) (ls : Array Slot), mWd D cy ad bs true mN σ s.heap H locs → lv_has ls 7 [(0, .ref (ad 26)), (1, .ref (ad w1)), (2, .int (mI x2)), (3, .int (mI x3)), (4, .int (mI x4)), (5, .int (mI x5)), (6, .int (mI x6))] → g_X0_nearest_h19 F w1 n x2 x3 x4 x5 x6 σ = some (r, σ') → mGi p l e 6 s m args below meth c D cy ad bs r σ' H locs (F0 m 19 ls []) := fun x2 x3 x4 x5 x6 σ H locs ls hw hl hf => ih hw hl hf
    intro x2 x3 x4 x5 x6 σ H locs ls hw hl hf
    unfold g_X0_nearest_h19 at hf
    refine lv_iload hx hb dX0_nearest_19 (lv_at hl 6 rfl) ?_
    refine lv_iload hx hb dX0_nearest_21 (lv_at hl 4 rfl) ?_
    refine r_icmp_ge (tgt := 54) X dX0_nearest_23 (by decide) hf (fun hc hf => ?_) (fun hc hf => ?_)
    · refine lv_iload hx hb dX0_nearest_54 (lv_at hl 5 rfl) ?_
      exact r_iret X hw dX0_nearest_56 hf
    · refine lv_aload_n hx hb dX0_nearest_26 rfl (lv_at hl 0 rfl) ?_
      refine r_getr 29 X hw sh_26 fd_0_0 rfl rfl lf_X0_25 dX0_nearest_27 ?_
      refine lv_iconst (v := mI 0) hx hb dX0_nearest_30 rfl ?_
      refine lv_iconst (v := mI 0) hx hb dX0_nearest_31 rfl ?_
      refine r_cvv (rest := []) [.int (mI 0), .int (mI 0)] X hw (fun ra σa h => c_X10_pass l D cy ad bs F 29 0 0 σ ra σa sh_w29 h) sh_29 rfl (by decide) rfl km_X10_pass kv_X10_pass lm_X0_41 dX0_nearest_32 hl.1 rfl rfl (Nat.le_of_ble_eq_true rfl) ⟨by decide, by decide⟩ ⟨Nat.zero_le _, Nat.zero_le _⟩ hf (fun r105 σ106 _ hf H locs hw => ?_)
      refine lv_iload hx hb dX0_nearest_35 (lv_at hl 5 rfl) ?_
      refine lv_aload_n hx hb dX0_nearest_37 rfl (lv_at hl 0 rfl) ?_
      refine lv_iload_n hx hb dX0_nearest_38 rfl (lv_at hl 2 rfl) ?_
      refine lv_iload_n hx hb dX0_nearest_39 rfl (lv_at hl 3 rfl) ?_
      refine r_cvi (rest := [.int (mI x5)]) [.int (mI x2), .int (mI x3)] X hw (fun ra σa h => c_X0_distance l D cy ad bs F x2 x3 σ106 ra σa  h) sh_26 rfl (by decide) rfl km_X0_distance kv_X0_distance lm_X0_63 dX0_nearest_40 hl.1 rfl rfl (Nat.le_of_ble_eq_true rfl) ⟨by decide, by decide⟩ ⟨Nat.zero_le _, Nat.zero_le _⟩ hf (fun r107 σ108 _ hf H locs hw => ?_)
      refine r_csi (rest := []) [.int (mI x5), .int (mI r107)] X hw (fun ra σa h => c_J9_min_7cf53 l D cy ad bs F x5 r107 σ108 ra σa  h) km_J9_min_7cf53 ks_J9_min_7cf53 lm_X0_66 dX0_nearest_43 hl.1 rfl rfl (Nat.le_of_ble_eq_true rfl) ⟨by decide, by decide⟩ ⟨Nat.zero_le _, Nat.zero_le _⟩ hf (fun r109 σ110 _ hf H locs hw => ?_)
      refine lv_istore (lv' := [(5, .int (mI r109)), (0, .ref (ad 26)), (1, .ref (ad w1)), (2, .int (mI x2)), (3, .int (mI x3)), (4, .int (mI x4)), (6, .int (mI x6))]) hx hb dX0_nearest_46 hl (by decide) rfl (fun ls hl => ?_)
      refine lv_iinc (v := mI (x6 + 1)) (lv' := [(6, .int (mI (x6 + 1))), (5, .int (mI r109)), (0, .ref (ad 26)), (1, .ref (ad w1)), (2, .int (mI x2)), (3, .int (mI x3)), (4, .int (mI x4))]) hx hb dX0_nearest_48 hl (k := 6) rfl (mI_add _ _) (by decide) rfl (fun ls hl => ?_)
      refine lv_goto (tgt := 19) hx hb dX0_nearest_51 (by decide) ?_
      exact hk19 x2 x3 x4 r109 (x6 + 1) σ110 _ _ _ hw (lv_sub hl [2, 3, 4, 5, 6, 1, 0] rfl) hf
def g_X0_nearest (F : Nat) (w1 : Nat) (x2 x3 x4 : Int) (σ : mMem) : mRs := mob (g_X10_copyFrom F 29 w1 σ) (fun r1 σ2 => mob (g_X0_distance F x2 x3 σ2) (fun r3 σ4 => g_X0_nearest_h19 F w1 F x2 x3 x4 r3 0 σ4))
set_option maxRecDepth 100000 in
set_option maxHeartbeats 4000000 in
theorem c_X0_nearest (l : Launch) (D : va_G) (cy : Nat → ClassId) (ad : Nat → Nat) (bs : Nat) (F : Nat) (w1 : Nat) (x2 x3 x4 : Int) (σ : mMem) (r : Int) (σ' : mMem) (hw1 : mWorld w1) (hf : g_X0_nearest F w1 x2 x3 x4 σ = some (r, σ')) : mCi l D cy ad bs yX0_nearest cX0_nearest 7 (some .int) 6 [.ref (ad 26), .ref (ad w1), .int (mI x2), .int (mI x3), .int (mI x4)] σ r σ' := by
  refine mCi.of (lv := [(0, .ref (ad 26)), (1, .ref (ad w1)), (2, .int (mI x2)), (3, .int (mI x3)), (4, .int (mI x4))]) km_X0_nearest.2.2.2.2.2 (Nat.le_of_ble_eq_true rfl) rfl (fun p e s m args below meth c H locs ls X hw hl => ?_)
  obtain ⟨⟨hx, hb, -, -, -⟩, -⟩ := id X
  unfold g_X0_nearest at hf
  refine lv_aload_n hx hb dX0_nearest_0 rfl (lv_at hl 0 rfl) ?_
  refine r_getr 29 X hw sh_26 fd_0_0 rfl rfl lf_X0_25 dX0_nearest_1 ?_
  refine lv_aload_n hx hb dX0_nearest_4 rfl (lv_at hl 1 rfl) ?_
  refine r_cvv (rest := []) [.ref (ad w1)] X hw (fun ra σa h => c_X10_copyFrom l D cy ad bs F 29 w1 σ ra σa sh_w29 hw1 h) sh_29 rfl (by decide) rfl km_X10_copyFrom kv_X10_copyFrom lm_X0_33 dX0_nearest_5 hl.1 rfl rfl (Nat.le_of_ble_eq_true rfl) ⟨by decide, by decide⟩ ⟨Nat.zero_le _, Nat.zero_le _⟩ hf (fun r1 σ2 _ hf H locs hw => ?_)
  refine lv_aload_n hx hb dX0_nearest_8 rfl (lv_at hl 0 rfl) ?_
  refine lv_iload_n hx hb dX0_nearest_9 rfl (lv_at hl 2 rfl) ?_
  refine lv_iload_n hx hb dX0_nearest_10 rfl (lv_at hl 3 rfl) ?_
  refine r_cvi (rest := []) [.int (mI x2), .int (mI x3)] X hw (fun ra σa h => c_X0_distance l D cy ad bs F x2 x3 σ2 ra σa  h) sh_26 rfl (by decide) rfl km_X0_distance kv_X0_distance lm_X0_63 dX0_nearest_11 hl.1 rfl rfl (Nat.le_of_ble_eq_true rfl) ⟨by decide, by decide⟩ ⟨Nat.zero_le _, Nat.zero_le _⟩ hf (fun r3 σ4 _ hf H locs hw => ?_)
  refine lv_istore (lv' := [(5, .int (mI r3)), (0, .ref (ad 26)), (1, .ref (ad w1)), (2, .int (mI x2)), (3, .int (mI x3)), (4, .int (mI x4))]) hx hb dX0_nearest_14 hl (by decide) rfl (fun ls hl => ?_)
  refine lv_iconst (v := mI 0) hx hb dX0_nearest_16 rfl ?_
  refine lv_istore (lv' := [(6, .int (mI 0)), (5, .int (mI r3)), (0, .ref (ad 26)), (1, .ref (ad w1)), (2, .int (mI x2)), (3, .int (mI x3)), (4, .int (mI x4))]) hx hb dX0_nearest_17 hl (by decide) rfl (fun ls hl => ?_)
  exact w_X0_nearest_h19 X hw1 _ hw (lv_sub hl [2, 3, 4, 5, 6, 1, 0] rfl) hf
def g_X10_isBlack_b23 (F : Nat) (o : Nat)  (t0 : Int) (σ : mMem) : mRs := if mw t0 = 0 ∨ mw t0 = 1 then some (t0, σ) else none
set_option maxRecDepth 100000 in
set_option maxHeartbeats 4000000 in
theorem w_X10_isBlack_b23 {p : Program} {l : Launch} {e : Env} {s : State} {m : MethodId} {args : Array Value} {below : List Frame} {meth : Method} {c : Code} {D : va_G} {cy : Nat → ClassId} {ad : Nat → Nat} {bs : Nat} {F : Nat} {o : Nat} (X : mCx p m c cX10_isBlack 3 s args RX10 meth D cy (some .boolean)) (ho : mWorld o) {r : Int} {σ' : mMem}   {t0 : Int} {σ : mMem} {H : Heap} {locs : List Loc} {ls : Array Slot} (hw : mWd D cy ad bs true mN σ s.heap H locs) (hl : lv_has ls 3 [(0, .ref (ad o))]) (hf : g_X10_isBlack_b23 F o t0 σ = some (r, σ')) : mGi p l e 3 s m args below meth c D cy ad bs r σ' H locs (F0 m 23 ls [.int (mI t0)]) := by
  obtain ⟨⟨hx, hb, -, -, -⟩, -⟩ := id X
  unfold g_X10_isBlack_b23 at hf
  exact r_zret X hw dX10_isBlack_23 hf
def g_X10_isBlack (F : Nat) (o : Nat) (x1 x2 : Int) (σ : mMem) : mRs := if σ o 3 = 3 ∨ σ o 3 = 8 then mob (g_X5_greyAt F (σ o 3).toNat x1 x2 σ) (fun r2 σ3 => if mw (r2 - (σ3 o 5)) < mw 5 then (g_X10_isBlack_b23 F o 0 σ3) else (g_X10_isBlack_b23 F o 1 σ3)) else none
set_option maxRecDepth 100000 in
set_option maxHeartbeats 4000000 in
theorem c_X10_isBlack (l : Launch) (D : va_G) (cy : Nat → ClassId) (ad : Nat → Nat) (bs : Nat) (F : Nat) (o : Nat) (x1 x2 : Int) (σ : mMem) (r : Int) (σ' : mMem) (ho : mWorld o) (hf : g_X10_isBlack F o x1 x2 σ = some (r, σ')) : mCi l D cy ad bs yX10_isBlack cX10_isBlack 3 (some .boolean) 3 [.ref (ad o), .int (mI x1), .int (mI x2)] σ r σ' := by
  refine mCi.of (lv := [(0, .ref (ad o)), (1, .int (mI x1)), (2, .int (mI x2))]) km_X10_isBlack.2.2.2.2.2 (Nat.le_of_ble_eq_true rfl) rfl (fun p e s m args below meth c H locs ls X hw hl => ?_)
  obtain ⟨⟨hx, hb, -, -, -⟩, -⟩ := id X
  unfold g_X10_isBlack at hf
  refine lv_aload_n hx hb dX10_isBlack_0 rfl (lv_at hl 0 rfl) ?_
  refine r_getp X hw ho.1 fd_10_3 rfl lf_X10_28 dX10_isBlack_1 hf (fun hg1 hf => ?_)
  refine lv_iload_n hx hb dX10_isBlack_4 rfl (lv_at hl 1 rfl) ?_
  refine lv_iload_n hx hb dX10_isBlack_5 rfl (lv_at hl 2 rfl) ?_
  refine r_cvi (rest := []) [.int (mI x1), .int (mI x2)] X hw (fun ra σa h => c_X5_greyAt l D cy ad bs F (σ o 3).toNat x1 x2 σ ra σa (mPlan_z hg1) h) (mPlan_z hg1).1 rfl (by decide) rfl km_X5_greyAt kv_X5_greyAt lm_X10_82 dX10_isBlack_6 hl.1 rfl rfl (Nat.le_of_ble_eq_true rfl) ⟨by decide, by decide⟩ ⟨Nat.zero_le _, Nat.zero_le _⟩ hf (fun r2 σ3 _ hf H locs hw => ?_)
  refine lv_aload_n hx hb dX10_isBlack_9 rfl (lv_at hl 0 rfl) ?_
  refine r_geti X hw ho.1 fd_10_5 rfl lf_X10_36 dX10_isBlack_10 ?_
  refine r_isub X dX10_isBlack_13 ?_
  refine lv_iconst (v := mI 5) hx hb dX10_isBlack_14 rfl ?_
  refine r_icmp_lt (tgt := 22) X dX10_isBlack_15 (by decide) hf (fun hc hf => ?_) (fun hc hf => ?_)
  · refine lv_iconst (v := mI 0) hx hb dX10_isBlack_22 rfl ?_
    exact w_X10_isBlack_b23 X ho hw (lv_sub hl [0] rfl) hf
  · refine lv_iconst (v := mI 1) hx hb dX10_isBlack_18 rfl ?_
    refine lv_goto (tgt := 23) hx hb dX10_isBlack_19 (by decide) ?_
    exact w_X10_isBlack_b23 X ho hw (lv_sub hl [0] rfl) hf
def g_X10_onBlack (F : Nat) (o : Nat) (x1 : Int) (σ : mMem) : mRs := mob (g_X10_of F o x1 0 σ) (fun r1 σ2 => mob (g_X10_of F o x1 1 σ2) (fun r3 σ4 => mob (g_X10_isBlack F o r1 r3 σ4) (fun r5 σ6 => if mw r5 = 0 ∨ mw r5 = 1 then some (r5, σ6) else none)))
set_option maxRecDepth 100000 in
set_option maxHeartbeats 4000000 in
theorem c_X10_onBlack (l : Launch) (D : va_G) (cy : Nat → ClassId) (ad : Nat → Nat) (bs : Nat) (F : Nat) (o : Nat) (x1 : Int) (σ : mMem) (r : Int) (σ' : mMem) (ho : mWorld o) (hf : g_X10_onBlack F o x1 σ = some (r, σ')) : mCi l D cy ad bs yX10_onBlack cX10_onBlack 2 (some .boolean) 4 [.ref (ad o), .int (mI x1)] σ r σ' := by
  refine mCi.of (lv := [(0, .ref (ad o)), (1, .int (mI x1))]) km_X10_onBlack.2.2.2.2.2 (Nat.le_of_ble_eq_true rfl) rfl (fun p e s m args below meth c H locs ls X hw hl => ?_)
  obtain ⟨⟨hx, hb, -, -, -⟩, -⟩ := id X
  unfold g_X10_onBlack at hf
  refine lv_aload_n hx hb dX10_onBlack_0 rfl (lv_at hl 0 rfl) ?_
  refine lv_aload_n hx hb dX10_onBlack_1 rfl (lv_at hl 0 rfl) ?_
  refine lv_iload_n hx hb dX10_onBlack_2 rfl (lv_at hl 1 rfl) ?_
  refine lv_iconst (v := mI 0) hx hb dX10_onBlack_3 rfl ?_
  refine r_cvi (rest := [.ref (ad o)]) [.int (mI x1), .int (mI 0)] X hw (fun ra σa h => c_X10_of l D cy ad bs F o x1 0 σ ra σa ho h) ho.1 rfl (by decide) rfl km_X10_of kv_X10_of lm_X10_65 dX10_onBlack_4 hl.1 rfl rfl (Nat.le_of_ble_eq_true rfl) ⟨by decide, by decide⟩ ⟨Nat.zero_le _, Nat.zero_le _⟩ hf (fun r1 σ2 _ hf H locs hw => ?_)
  refine lv_aload_n hx hb dX10_onBlack_7 rfl (lv_at hl 0 rfl) ?_
  refine lv_iload_n hx hb dX10_onBlack_8 rfl (lv_at hl 1 rfl) ?_
  refine lv_iconst (v := mI 1) hx hb dX10_onBlack_9 rfl ?_
  refine r_cvi (rest := [.int (mI r1), .ref (ad o)]) [.int (mI x1), .int (mI 1)] X hw (fun ra σa h => c_X10_of l D cy ad bs F o x1 1 σ2 ra σa ho h) ho.1 rfl (by decide) rfl km_X10_of kv_X10_of lm_X10_65 dX10_onBlack_10 hl.1 rfl rfl (Nat.le_of_ble_eq_true rfl) ⟨by decide, by decide⟩ ⟨Nat.zero_le _, Nat.zero_le _⟩ hf (fun r3 σ4 _ hf H locs hw => ?_)
  refine r_cvi (rest := []) [.int (mI r1), .int (mI r3)] X hw (fun ra σa h => c_X10_isBlack l D cy ad bs F o r1 r3 σ4 ra σa ho h) ho.1 rfl (by decide) rfl km_X10_isBlack kv_X10_isBlack lm_X10_85 dX10_onBlack_13 hl.1 rfl rfl (Nat.le_of_ble_eq_true rfl) ⟨by decide, by decide⟩ ⟨Nat.zero_le _, Nat.zero_le _⟩ hf (fun r5 σ6 _ hf H locs hw => ?_)
  exact r_zret X hw dX10_onBlack_16 hf
def g_X0_blackSteps_b37 (F : Nat) (k5 : Int → Int → Int → Int → mMem → mRs) (x1 x2 x4 t0 t1 : Int) (σ : mMem) : mRs := mlet (t0 + t1) (fun y205 => k5 x1 x2 y205 (x4 + 1) σ)
set_option maxRecDepth 100000 in
set_option maxHeartbeats 4000000 in
theorem w_X0_blackSteps_b37 {p : Program} {l : Launch} {e : Env} {s : State} {m : MethodId} {args : Array Value} {below : List Frame} {meth : Method} {c : Code} {D : va_G} {cy : Nat → ClassId} {ad : Nat → Nat} {bs : Nat} {F : Nat}  (X : mCx p m c cX0_blackSteps 5 s args RX0 meth D cy (some .int))  {r : Int} {σ' : mMem} {k5 : Int → Int → Int → Int → mMem → mRs} (hk5 : ∀ (x1 x2 x3 x4 : Int) (σ : mMem) (H : Heap) (locs : List Loc) (ls : Array Slot), mWd D cy ad bs true mN σ s.heap H locs → lv_has ls 5 [(0, .ref (ad 26)), (1, .int (mI x1)), (2, .int (mI x2)), (3, .int (mI x3)), (4, .int (mI x4))] → k5 x1 x2 x3 x4 σ = some (r, σ') → mGi p l e 6 s m args below meth c D cy ad bs r σ' H locs (F0 m 5 ls [])) {x1 x2 x4 t0 t1 : Int} {σ : mMem} {H : Heap} {locs : List Loc} {ls : Array Slot} (hw : mWd D cy ad bs true mN σ s.heap H locs) (hl : lv_has ls 5 [(0, .ref (ad 26)), (1, .int (mI x1)), (2, .int (mI x2)), (4, .int (mI x4))]) (hf : g_X0_blackSteps_b37 F k5 x1 x2 x4 t0 t1 σ = some (r, σ')) : mGi p l e 6 s m args below meth c D cy ad bs r σ' H locs (F0 m 37 ls [.int (mI t1), .int (mI t0)]) := by
  obtain ⟨⟨hx, hb, -, -, -⟩, -⟩ := id X
  unfold g_X0_blackSteps_b37 at hf
  refine r_iadd X dX0_blackSteps_37 ?_
  refine r_leti hf (fun y205 hf => ?_)
  refine lv_istore_n (lv' := [(3, .int (mI y205)), (0, .ref (ad 26)), (1, .int (mI x1)), (2, .int (mI x2)), (4, .int (mI x4))]) hx hb dX0_blackSteps_38 rfl hl (by decide) rfl (fun ls hl => ?_)
  refine lv_iinc (v := mI (x4 + 1)) (lv' := [(4, .int (mI (x4 + 1))), (3, .int (mI y205)), (0, .ref (ad 26)), (1, .int (mI x1)), (2, .int (mI x2))]) hx hb dX0_blackSteps_39 hl (k := 4) rfl (mI_add _ _) (by decide) rfl (fun ls hl => ?_)
  refine lv_goto (tgt := 5) hx hb dX0_blackSteps_42 (by decide) ?_
  exact hk5 x1 x2 y205 (x4 + 1) σ _ _ _ hw (lv_sub hl [2, 3, 4, 1, 0] rfl) hf
def g_X0_blackSteps_h5 (F : Nat)  : Nat → Int → Int → Int → Int → mMem → mRs
  | 0, _, _, _, _, _ => none
  | n + 1, x1, x2, x3, x4, σ => if mw x2 ≤ mw x4 then (some (x3, σ)) else (mob (g_X10_pass F 29 0 0 σ) (fun r101 σ102 => mob (g_X10_onBlack F 29 x1 σ102) (fun r103 σ104 => if mw r103 = 0 then (g_X0_blackSteps_b37 F (g_X0_blackSteps_h5 F n) x1 x2 x4 x3 0 σ104) else (g_X0_blackSteps_b37 F (g_X0_blackSteps_h5 F n) x1 x2 x4 x3 1 σ104))))
set_option maxRecDepth 100000 in
set_option maxHeartbeats 4000000 in
theorem w_X0_blackSteps_h5 {p : Program} {l : Launch} {e : Env} {s : State} {m : MethodId} {args : Array Value} {below : List Frame} {meth : Method} {c : Code} {D : va_G} {cy : Nat → ClassId} {ad : Nat → Nat} {bs : Nat} {F : Nat}  (X : mCx p m c cX0_blackSteps 5 s args RX0 meth D cy (some .int))  {r : Int} {σ' : mMem}   (n : Nat) : ∀ {x1 x2 x3 x4 : Int} {σ : mMem} {H : Heap} {locs : List Loc} {ls : Array Slot} (_ : mWd D cy ad bs true mN σ s.heap H locs) (_ : lv_has ls 5 [(0, .ref (ad 26)), (1, .int (mI x1)), (2, .int (mI x2)), (3, .int (mI x3)), (4, .int (mI x4))]) (_ : g_X0_blackSteps_h5 F n x1 x2 x3 x4 σ = some (r, σ')), mGi p l e 6 s m args below meth c D cy ad bs r σ' H locs (F0 m 5 ls []) := by
  obtain ⟨⟨hx, hb, -, -, -⟩, -⟩ := id X
  induction n with
  | zero =>
    intro x1 x2 x3 x4 σ H locs ls hw hl hf
    unfold g_X0_blackSteps_h5 at hf
    cases hf
  | succ n ih =>
    have hk5 : ∀ (x1 x2 x3 x4 : Int) (σ : mMem) (H : Heap) (locs : List Loc) (ls : Array Slot), mWd D cy ad bs true mN σ s.heap H locs → lv_has ls 5 [(0, .ref (ad 26)), (1, .int (mI x1)), (2, .int (mI x2)), (3, .int (mI x3)), (4, .int (mI x4))] → g_X0_blackSteps_h5 F n x1 x2 x3 x4 σ = some (r, σ') → mGi p l e 6 s m args below meth c D cy ad bs r σ' H locs (F0 m 5 ls []) := fun x1 x2 x3 x4 σ H locs ls hw hl hf => ih hw hl hf
    intro x1 x2 x3 x4 σ H locs ls hw hl hf
    unfold g_X0_blackSteps_h5 at hf
    refine lv_iload hx hb dX0_blackSteps_5 (lv_at hl 4 rfl) ?_
    refine lv_iload_n hx hb dX0_blackSteps_7 rfl (lv_at hl 2 rfl) ?_
    refine r_icmp_ge (tgt := 45) X dX0_blackSteps_8 (by decide) hf (fun hc hf => ?_) (fun hc hf => ?_)
    · refine lv_iload_n hx hb dX0_blackSteps_45 rfl (lv_at hl 3 rfl) ?_
      exact r_iret X hw dX0_blackSteps_46 hf
    · refine lv_aload_n hx hb dX0_blackSteps_11 rfl (lv_at hl 0 rfl) ?_
      refine r_getr 29 X hw sh_26 fd_0_0 rfl rfl lf_X0_25 dX0_blackSteps_12 ?_
      refine lv_iconst (v := mI 0) hx hb dX0_blackSteps_15 rfl ?_
      refine lv_iconst (v := mI 0) hx hb dX0_blackSteps_16 rfl ?_
      refine r_cvv (rest := []) [.int (mI 0), .int (mI 0)] X hw (fun ra σa h => c_X10_pass l D cy ad bs F 29 0 0 σ ra σa sh_w29 h) sh_29 rfl (by decide) rfl km_X10_pass kv_X10_pass lm_X0_41 dX0_blackSteps_17 hl.1 rfl rfl (Nat.le_of_ble_eq_true rfl) ⟨by decide, by decide⟩ ⟨Nat.zero_le _, Nat.zero_le _⟩ hf (fun r101 σ102 _ hf H locs hw => ?_)
      refine lv_iload_n hx hb dX0_blackSteps_20 rfl (lv_at hl 3 rfl) ?_
      refine lv_aload_n hx hb dX0_blackSteps_21 rfl (lv_at hl 0 rfl) ?_
      refine r_getr 29 X hw sh_26 fd_0_0 rfl rfl lf_X0_25 dX0_blackSteps_22 ?_
      refine lv_iload_n hx hb dX0_blackSteps_25 rfl (lv_at hl 1 rfl) ?_
      refine r_cvi (rest := [.int (mI x3)]) [.int (mI x1)] X hw (fun ra σa h => c_X10_onBlack l D cy ad bs F 29 x1 σ102 ra σa sh_w29 h) sh_29 rfl (by decide) rfl km_X10_onBlack kv_X10_onBlack lm_X0_77 dX0_blackSteps_26 hl.1 rfl rfl (Nat.le_of_ble_eq_true rfl) ⟨by decide, by decide⟩ ⟨Nat.zero_le _, Nat.zero_le _⟩ hf (fun r103 σ104 _ hf H locs hw => ?_)
      refine r_if_eq (tgt := 36) X dX0_blackSteps_29 (by decide) hf (fun hc hf => ?_) (fun hc hf => ?_)
      · refine lv_iconst (v := mI 0) hx hb dX0_blackSteps_36 rfl ?_
        exact w_X0_blackSteps_b37 X hk5 hw (lv_sub hl [0, 1, 2, 4] rfl) hf
      · refine lv_iconst (v := mI 1) hx hb dX0_blackSteps_32 rfl ?_
        refine lv_goto (tgt := 37) hx hb dX0_blackSteps_33 (by decide) ?_
        exact w_X0_blackSteps_b37 X hk5 hw (lv_sub hl [0, 1, 2, 4] rfl) hf
def g_X0_blackSteps (F : Nat) (x1 x2 : Int) (σ : mMem) : mRs := g_X0_blackSteps_h5 F F x1 x2 0 0 σ
set_option maxRecDepth 100000 in
set_option maxHeartbeats 4000000 in
theorem c_X0_blackSteps (l : Launch) (D : va_G) (cy : Nat → ClassId) (ad : Nat → Nat) (bs : Nat) (F : Nat)  (x1 x2 : Int) (σ : mMem) (r : Int) (σ' : mMem)  (hf : g_X0_blackSteps F x1 x2 σ = some (r, σ')) : mCi l D cy ad bs yX0_blackSteps cX0_blackSteps 5 (some .int) 6 [.ref (ad 26), .int (mI x1), .int (mI x2)] σ r σ' := by
  refine mCi.of (lv := [(0, .ref (ad 26)), (1, .int (mI x1)), (2, .int (mI x2))]) km_X0_blackSteps.2.2.2.2.2 (Nat.le_of_ble_eq_true rfl) rfl (fun p e s m args below meth c H locs ls X hw hl => ?_)
  obtain ⟨⟨hx, hb, -, -, -⟩, -⟩ := id X
  unfold g_X0_blackSteps at hf
  refine lv_iconst (v := mI 0) hx hb dX0_blackSteps_0 rfl ?_
  refine lv_istore_n (lv' := [(3, .int (mI 0)), (0, .ref (ad 26)), (1, .int (mI x1)), (2, .int (mI x2))]) hx hb dX0_blackSteps_1 rfl hl (by decide) rfl (fun ls hl => ?_)
  refine lv_iconst (v := mI 0) hx hb dX0_blackSteps_2 rfl ?_
  refine lv_istore (lv' := [(4, .int (mI 0)), (3, .int (mI 0)), (0, .ref (ad 26)), (1, .int (mI x1)), (2, .int (mI x2))]) hx hb dX0_blackSteps_3 hl (by decide) rfl (fun ls hl => ?_)
  exact w_X0_blackSteps_h5 X _ hw (lv_sub hl [2, 3, 4, 1, 0] rfl) hf
def g_X0_bestEyes_b118 (F : Nat) (w1 : Nat)  (t0 : Int) (σ : mMem) : mRs := some (t0, σ)
set_option maxRecDepth 100000 in
set_option maxHeartbeats 4000000 in
theorem w_X0_bestEyes_b118 {p : Program} {l : Launch} {e : Env} {s : State} {m : MethodId} {args : Array Value} {below : List Frame} {meth : Method} {c : Code} {D : va_G} {cy : Nat → ClassId} {ad : Nat → Nat} {bs : Nat} {F : Nat} {w1 : Nat} (X : mCx p m c cX0_bestEyes 11 s args RX0 meth D cy (some .int)) (hw1 : mWorld w1) {r : Int} {σ' : mMem}   {t0 : Int} {σ : mMem} {H : Heap} {locs : List Loc} {ls : Array Slot} (hw : mWd D cy ad bs true mN σ s.heap H locs) (hl : lv_has ls 11 [(0, .ref (ad 26)), (1, .ref (ad w1))]) (hf : g_X0_bestEyes_b118 F w1 t0 σ = some (r, σ')) : mGi p l e 7 s m args below meth c D cy ad bs r σ' H locs (F0 m 118 ls [.int (mI t0)]) := by
  obtain ⟨⟨hx, hb, -, -, -⟩, -⟩ := id X
  unfold g_X0_bestEyes_b118 at hf
  exact r_iret X hw dX0_bestEyes_118 hf
def g_X0_bestEyes_b85 (F : Nat) (w1 : Nat) (k12 : Int → Int → Int → Int → Int → Int → Int → mMem → mRs) (k21 : Int → Int → Int → Int → Int → Int → Int → Int → mMem → mRs) (x2 x3 x4 x5 x6 x7 x8 x9 : Int) (σ : mMem) : mRs := k21 x2 x3 x4 x5 x6 x7 x8 (x9 + 1) σ
set_option maxRecDepth 100000 in
set_option maxHeartbeats 4000000 in
theorem w_X0_bestEyes_b85 {p : Program} {l : Launch} {e : Env} {s : State} {m : MethodId} {args : Array Value} {below : List Frame} {meth : Method} {c : Code} {D : va_G} {cy : Nat → ClassId} {ad : Nat → Nat} {bs : Nat} {F : Nat} {w1 : Nat} (X : mCx p m c cX0_bestEyes 11 s args RX0 meth D cy (some .int)) (hw1 : mWorld w1) {r : Int} {σ' : mMem} {k12 : Int → Int → Int → Int → Int → Int → Int → mMem → mRs} {k21 : Int → Int → Int → Int → Int → Int → Int → Int → mMem → mRs} (hk12 : ∀ (x2 x3 x4 x5 x6 x7 x8 : Int) (σ : mMem) (H : Heap) (locs : List Loc) (ls : Array Slot), mWd D cy ad bs true mN σ s.heap H locs → lv_has ls 11 [(0, .ref (ad 26)), (1, .ref (ad w1)), (2, .int (mI x2)), (3, .int (mI x3)), (4, .int (mI x4)), (5, .int (mI x5)), (6, .int (mI x6)), (7, .int (mI x7)), (8, .int (mI x8))] → k12 x2 x3 x4 x5 x6 x7 x8 σ = some (r, σ') → mGi p l e 7 s m args below meth c D cy ad bs r σ' H locs (F0 m 12 ls [])) (hk21 : ∀ (x2 x3 x4 x5 x6 x7 x8 x9 : Int) (σ : mMem) (H : Heap) (locs : List Loc) (ls : Array Slot), mWd D cy ad bs true mN σ s.heap H locs → lv_has ls 11 [(0, .ref (ad 26)), (1, .ref (ad w1)), (2, .int (mI x2)), (3, .int (mI x3)), (4, .int (mI x4)), (5, .int (mI x5)), (6, .int (mI x6)), (7, .int (mI x7)), (8, .int (mI x8)), (9, .int (mI x9))] → k21 x2 x3 x4 x5 x6 x7 x8 x9 σ = some (r, σ') → mGi p l e 7 s m args below meth c D cy ad bs r σ' H locs (F0 m 21 ls [])) {x2 x3 x4 x5 x6 x7 x8 x9 : Int} {σ : mMem} {H : Heap} {locs : List Loc} {ls : Array Slot} (hw : mWd D cy ad bs true mN σ s.heap H locs) (hl : lv_has ls 11 [(0, .ref (ad 26)), (1, .ref (ad w1)), (2, .int (mI x2)), (3, .int (mI x3)), (4, .int (mI x4)), (5, .int (mI x5)), (6, .int (mI x6)), (7, .int (mI x7)), (8, .int (mI x8)), (9, .int (mI x9))]) (hf : g_X0_bestEyes_b85 F w1 k12 k21 x2 x3 x4 x5 x6 x7 x8 x9 σ = some (r, σ')) : mGi p l e 7 s m args below meth c D cy ad bs r σ' H locs (F0 m 85 ls []) := by
  obtain ⟨⟨hx, hb, -, -, -⟩, -⟩ := id X
  unfold g_X0_bestEyes_b85 at hf
  refine lv_iinc (v := mI (x9 + 1)) (lv' := [(9, .int (mI (x9 + 1))), (0, .ref (ad 26)), (1, .ref (ad w1)), (2, .int (mI x2)), (3, .int (mI x3)), (4, .int (mI x4)), (5, .int (mI x5)), (6, .int (mI x6)), (7, .int (mI x7)), (8, .int (mI x8))]) hx hb dX0_bestEyes_85 hl (k := 9) rfl (mI_add _ _) (by decide) rfl (fun ls hl => ?_)
  refine lv_goto (tgt := 21) hx hb dX0_bestEyes_88 (by decide) ?_
  exact hk21 x2 x3 x4 x5 x6 x7 x8 (x9 + 1) σ _ _ _ hw (lv_sub hl [1, 2, 3, 4, 5, 6, 7, 8, 9, 0] rfl) hf
def g_X0_bestEyes_h21 (F : Nat) (w1 : Nat) (k12 : Int → Int → Int → Int → Int → Int → Int → mMem → mRs) : Nat → Int → Int → Int → Int → Int → Int → Int → Int → mMem → mRs
  | 0, _, _, _, _, _, _, _, _, _ => none
  | n + 1, x2, x3, x4, x5, x6, x7, x8, x9, σ => if mw 3 < mw x9 then (k12 x2 x3 x4 x5 x6 x7 (x8 + 1) σ) else (mob (g_X10_copyFrom F 29 w1 σ) (fun r301 σ302 => mob (g_X10_set F 29 x2 5 x8 σ302) (fun r303 σ304 => mob (g_X10_set F 29 x2 6 x9 σ304) (fun r305 σ306 => mob (g_X0_blackSteps F x2 x3 σ306) (fun r307 σ308 => if mw r307 ≤ mw x5 then (g_X0_bestEyes_b85 F w1 k12 (g_X0_bestEyes_h21 F w1 k12 n) x2 x3 x4 x5 x6 x7 x8 x9 σ308) else (g_X0_bestEyes_b85 F w1 k12 (g_X0_bestEyes_h21 F w1 k12 n) x2 x3 x4 r307 x8 x9 x8 x9 σ308))))))
set_option maxRecDepth 100000 in
set_option maxHeartbeats 4000000 in
theorem w_X0_bestEyes_h21 {p : Program} {l : Launch} {e : Env} {s : State} {m : MethodId} {args : Array Value} {below : List Frame} {meth : Method} {c : Code} {D : va_G} {cy : Nat → ClassId} {ad : Nat → Nat} {bs : Nat} {F : Nat} {w1 : Nat} (X : mCx p m c cX0_bestEyes 11 s args RX0 meth D cy (some .int)) (hw1 : mWorld w1) {r : Int} {σ' : mMem} {k12 : Int → Int → Int → Int → Int → Int → Int → mMem → mRs} (hk12 : ∀ (x2 x3 x4 x5 x6 x7 x8 : Int) (σ : mMem) (H : Heap) (locs : List Loc) (ls : Array Slot), mWd D cy ad bs true mN σ s.heap H locs → lv_has ls 11 [(0, .ref (ad 26)), (1, .ref (ad w1)), (2, .int (mI x2)), (3, .int (mI x3)), (4, .int (mI x4)), (5, .int (mI x5)), (6, .int (mI x6)), (7, .int (mI x7)), (8, .int (mI x8))] → k12 x2 x3 x4 x5 x6 x7 x8 σ = some (r, σ') → mGi p l e 7 s m args below meth c D cy ad bs r σ' H locs (F0 m 12 ls [])) (n : Nat) : ∀ {x2 x3 x4 x5 x6 x7 x8 x9 : Int} {σ : mMem} {H : Heap} {locs : List Loc} {ls : Array Slot} (_ : mWd D cy ad bs true mN σ s.heap H locs) (_ : lv_has ls 11 [(0, .ref (ad 26)), (1, .ref (ad w1)), (2, .int (mI x2)), (3, .int (mI x3)), (4, .int (mI x4)), (5, .int (mI x5)), (6, .int (mI x6)), (7, .int (mI x7)), (8, .int (mI x8)), (9, .int (mI x9))]) (_ : g_X0_bestEyes_h21 F w1 k12 n x2 x3 x4 x5 x6 x7 x8 x9 σ = some (r, σ')), mGi p l e 7 s m args below meth c D cy ad bs r σ' H locs (F0 m 21 ls []) := by
  obtain ⟨⟨hx, hb, -, -, -⟩, -⟩ := id X
  induction n with
  | zero =>
    intro x2 x3 x4 x5 x6 x7 x8 x9 σ H locs ls hw hl hf
    unfold g_X0_bestEyes_h21 at hf
    cases hf
  | succ n ih =>
    have hk21 : ∀ (x2 x3 x4 x5 x6 x7 x8 x9 : Int) (σ : mMem) (H : Heap) (locs : List Loc) (ls : Array Slot), mWd D cy ad bs true mN σ s.heap H locs → lv_has ls 11 [(0, .ref (ad 26)), (1, .ref (ad w1)), (2, .int (mI x2)), (3, .int (mI x3)), (4, .int (mI x4)), (5, .int (mI x5)), (6, .int (mI x6)), (7, .int (mI x7)), (8, .int (mI x8)), (9, .int (mI x9))] → g_X0_bestEyes_h21 F w1 k12 n x2 x3 x4 x5 x6 x7 x8 x9 σ = some (r, σ') → mGi p l e 7 s m args below meth c D cy ad bs r σ' H locs (F0 m 21 ls []) := fun x2 x3 x4 x5 x6 x7 x8 x9 σ H locs ls hw hl hf => ih hw hl hf
    intro x2 x3 x4 x5 x6 x7 x8 x9 σ H locs ls hw hl hf
    unfold g_X0_bestEyes_h21 at hf
    refine lv_iload hx hb dX0_bestEyes_21 (lv_at hl 9 rfl) ?_
    refine lv_iconst (v := mI 3) hx hb dX0_bestEyes_23 rfl ?_
    refine r_icmp_gt (tgt := 91) X dX0_bestEyes_24 (by decide) hf (fun hc hf => ?_) (fun hc hf => ?_)
    · refine lv_iinc (v := mI (x8 + 1)) (lv' := [(8, .int (mI (x8 + 1))), (0, .ref (ad 26)), (1, .ref (ad w1)), (2, .int (mI x2)), (3, .int (mI x3)), (4, .int (mI x4)), (5, .int (mI x5)), (6, .int (mI x6)), (7, .int (mI x7)), (9, .int (mI x9))]) hx hb dX0_bestEyes_91 hl (k := 8) rfl (mI_add _ _) (by decide) rfl (fun ls hl => ?_)
      refine lv_goto (tgt := 12) hx hb dX0_bestEyes_94 (by decide) ?_
      exact hk12 x2 x3 x4 x5 x6 x7 (x8 + 1) σ _ _ _ hw (lv_sub hl [1, 2, 3, 4, 5, 6, 7, 8, 0] rfl) hf
    · refine lv_aload_n hx hb dX0_bestEyes_27 rfl (lv_at hl 0 rfl) ?_
      refine r_getr 29 X hw sh_26 fd_0_0 rfl rfl lf_X0_25 dX0_bestEyes_28 ?_
      refine lv_aload_n hx hb dX0_bestEyes_31 rfl (lv_at hl 1 rfl) ?_
      refine r_cvv (rest := []) [.ref (ad w1)] X hw (fun ra σa h => c_X10_copyFrom l D cy ad bs F 29 w1 σ ra σa sh_w29 hw1 h) sh_29 rfl (by decide) rfl km_X10_copyFrom kv_X10_copyFrom lm_X0_33 dX0_bestEyes_32 hl.1 rfl rfl (Nat.le_of_ble_eq_true rfl) ⟨by decide, by decide⟩ ⟨Nat.zero_le _, Nat.zero_le _⟩ hf (fun r301 σ302 _ hf H locs hw => ?_)
      refine lv_aload_n hx hb dX0_bestEyes_35 rfl (lv_at hl 0 rfl) ?_
      refine r_getr 29 X hw sh_26 fd_0_0 rfl rfl lf_X0_25 dX0_bestEyes_36 ?_
      refine lv_iload_n hx hb dX0_bestEyes_39 rfl (lv_at hl 2 rfl) ?_
      refine lv_iconst (v := mI 5) hx hb dX0_bestEyes_40 rfl ?_
      refine lv_iload hx hb dX0_bestEyes_41 (lv_at hl 8 rfl) ?_
      refine r_cvv (rest := []) [.int (mI x2), .int (mI 5), .int (mI x8)] X hw (fun ra σa h => c_X10_set l D cy ad bs F 29 x2 5 x8 σ302 ra σa sh_w29 h) sh_29 rfl (by decide) rfl km_X10_set kv_X10_set lm_X0_37 dX0_bestEyes_43 hl.1 rfl rfl (Nat.le_of_ble_eq_true rfl) ⟨by decide, by decide⟩ ⟨Nat.zero_le _, Nat.zero_le _⟩ hf (fun r303 σ304 _ hf H locs hw => ?_)
      refine lv_aload_n hx hb dX0_bestEyes_46 rfl (lv_at hl 0 rfl) ?_
      refine r_getr 29 X hw sh_26 fd_0_0 rfl rfl lf_X0_25 dX0_bestEyes_47 ?_
      refine lv_iload_n hx hb dX0_bestEyes_50 rfl (lv_at hl 2 rfl) ?_
      refine lv_bipush (v := mI 6) hx hb dX0_bestEyes_51 (by decide) ?_
      refine lv_iload hx hb dX0_bestEyes_53 (lv_at hl 9 rfl) ?_
      refine r_cvv (rest := []) [.int (mI x2), .int (mI 6), .int (mI x9)] X hw (fun ra σa h => c_X10_set l D cy ad bs F 29 x2 6 x9 σ304 ra σa sh_w29 h) sh_29 rfl (by decide) rfl km_X10_set kv_X10_set lm_X0_37 dX0_bestEyes_55 hl.1 rfl rfl (Nat.le_of_ble_eq_true rfl) ⟨by decide, by decide⟩ ⟨Nat.zero_le _, Nat.zero_le _⟩ hf (fun r305 σ306 _ hf H locs hw => ?_)
      refine lv_aload_n hx hb dX0_bestEyes_58 rfl (lv_at hl 0 rfl) ?_
      refine lv_iload_n hx hb dX0_bestEyes_59 rfl (lv_at hl 2 rfl) ?_
      refine lv_iload_n hx hb dX0_bestEyes_60 rfl (lv_at hl 3 rfl) ?_
      refine r_cvi (rest := []) [.int (mI x2), .int (mI x3)] X hw (fun ra σa h => c_X0_blackSteps l D cy ad bs F x2 x3 σ306 ra σa  h) sh_26 rfl (by decide) rfl km_X0_blackSteps kv_X0_blackSteps lm_X0_74 dX0_bestEyes_61 hl.1 rfl rfl (Nat.le_of_ble_eq_true rfl) ⟨by decide, by decide⟩ ⟨Nat.zero_le _, Nat.zero_le _⟩ hf (fun r307 σ308 _ hf H locs hw => ?_)
      refine lv_istore (lv' := [(10, .int (mI r307)), (0, .ref (ad 26)), (1, .ref (ad w1)), (2, .int (mI x2)), (3, .int (mI x3)), (4, .int (mI x4)), (5, .int (mI x5)), (6, .int (mI x6)), (7, .int (mI x7)), (8, .int (mI x8)), (9, .int (mI x9))]) hx hb dX0_bestEyes_64 hl (by decide) rfl (fun ls hl => ?_)
      refine lv_iload hx hb dX0_bestEyes_66 (lv_at hl 0 rfl) ?_
      refine lv_iload hx hb dX0_bestEyes_68 (lv_at hl 6 rfl) ?_
      refine r_icmp_le (tgt := 85) X dX0_bestEyes_70 (by decide) hf (fun hc hf => ?_) (fun hc hf => ?_)
      · exact w_X0_bestEyes_b85 X hw1 hk12 hk21 hw (lv_sub hl [1, 2, 3, 4, 5, 6, 7, 8, 9, 10] rfl) hf
      · refine lv_iload hx hb dX0_bestEyes_73 (lv_at hl 0 rfl) ?_
        refine lv_istore (lv' := [(5, .int (mI r307)), (10, .int (mI r307)), (0, .ref (ad 26)), (1, .ref (ad w1)), (2, .int (mI x2)), (3, .int (mI x3)), (4, .int (mI x4)), (6, .int (mI x6)), (7, .int (mI x7)), (8, .int (mI x8)), (9, .int (mI x9))]) hx hb dX0_bestEyes_75 hl (by decide) rfl (fun ls hl => ?_)
        refine lv_iload hx hb dX0_bestEyes_77 (lv_at hl 9 rfl) ?_
        refine lv_istore (lv' := [(6, .int (mI x8)), (5, .int (mI r307)), (10, .int (mI r307)), (0, .ref (ad 26)), (1, .ref (ad w1)), (2, .int (mI x2)), (3, .int (mI x3)), (4, .int (mI x4)), (7, .int (mI x7)), (8, .int (mI x8)), (9, .int (mI x9))]) hx hb dX0_bestEyes_79 hl (by decide) rfl (fun ls hl => ?_)
        refine lv_iload hx hb dX0_bestEyes_81 (lv_at hl 10 rfl) ?_
        refine lv_istore (lv' := [(7, .int (mI x9)), (6, .int (mI x8)), (5, .int (mI r307)), (10, .int (mI r307)), (0, .ref (ad 26)), (1, .ref (ad w1)), (2, .int (mI x2)), (3, .int (mI x3)), (4, .int (mI x4)), (8, .int (mI x8)), (9, .int (mI x9))]) hx hb dX0_bestEyes_83 hl (by decide) rfl (fun ls hl => ?_)
        exact w_X0_bestEyes_b85 X hw1 hk12 hk21 hw (lv_sub hl [4, 5, 6, 7, 8, 2, 1, 0, 9, 10] rfl) hf
def g_X0_bestEyes_h12 (F : Nat) (w1 : Nat)  : Nat → Int → Int → Int → Int → Int → Int → Int → mMem → mRs
  | 0, _, _, _, _, _, _, _, _ => none
  | n + 1, x2, x3, x4, x5, x6, x7, x8, σ => if mw 2 < mw x8 then (if ¬ mw x4 = 0 then (if ¬ mw x4 = mw 1 then (g_X0_bestEyes_b118 F w1 x5 σ) else (g_X0_bestEyes_b118 F w1 x7 σ)) else (some (x6, σ))) else (g_X0_bestEyes_h21 F w1 (g_X0_bestEyes_h12 F w1 n) F x2 x3 x4 x5 x6 x7 x8 0 σ)
set_option maxRecDepth 100000 in
set_option maxHeartbeats 4000000 in
theorem w_X0_bestEyes_h12 {p : Program} {l : Launch} {e : Env} {s : State} {m : MethodId} {args : Array Value} {below : List Frame} {meth : Method} {c : Code} {D : va_G} {cy : Nat → ClassId} {ad : Nat → Nat} {bs : Nat} {F : Nat} {w1 : Nat} (X : mCx p m c cX0_bestEyes 11 s args RX0 meth D cy (some .int)) (hw1 : mWorld w1) {r : Int} {σ' : mMem}   (n : Nat) : ∀ {x2 x3 x4 x5 x6 x7 x8 : Int} {σ : mMem} {H : Heap} {locs : List Loc} {ls : Array Slot} (_ : mWd D cy ad bs true mN σ s.heap H locs) (_ : lv_has ls 11 [(0, .ref (ad 26)), (1, .ref (ad w1)), (2, .int (mI x2)), (3, .int (mI x3)), (4, .int (mI x4)), (5, .int (mI x5)), (6, .int (mI x6)), (7, .int (mI x7)), (8, .int (mI x8))]) (_ : g_X0_bestEyes_h12 F w1 n x2 x3 x4 x5 x6 x7 x8 σ = some (r, σ')), mGi p l e 7 s m args below meth c D cy ad bs r σ' H locs (F0 m 12 ls []) := by
  obtain ⟨⟨hx, hb, -, -, -⟩, -⟩ := id X
  induction n with
  | zero =>
    intro x2 x3 x4 x5 x6 x7 x8 σ H locs ls hw hl hf
    unfold g_X0_bestEyes_h12 at hf
    cases hf
  | succ n ih =>
    have hk12 : ∀ (x2 x3 x4 x5 x6 x7 x8 : Int) (σ : mMem) (H : Heap) (locs : List Loc) (ls : Array Slot), mWd D cy ad bs true mN σ s.heap H locs → lv_has ls 11 [(0, .ref (ad 26)), (1, .ref (ad w1)), (2, .int (mI x2)), (3, .int (mI x3)), (4, .int (mI x4)), (5, .int (mI x5)), (6, .int (mI x6)), (7, .int (mI x7)), (8, .int (mI x8))] → g_X0_bestEyes_h12 F w1 n x2 x3 x4 x5 x6 x7 x8 σ = some (r, σ') → mGi p l e 7 s m args below meth c D cy ad bs r σ' H locs (F0 m 12 ls []) := fun x2 x3 x4 x5 x6 x7 x8 σ H locs ls hw hl hf => ih hw hl hf
    intro x2 x3 x4 x5 x6 x7 x8 σ H locs ls hw hl hf
    unfold g_X0_bestEyes_h12 at hf
    refine lv_iload hx hb dX0_bestEyes_12 (lv_at hl 8 rfl) ?_
    refine lv_iconst (v := mI 2) hx hb dX0_bestEyes_14 rfl ?_
    refine r_icmp_gt (tgt := 97) X dX0_bestEyes_15 (by decide) hf (fun hc hf => ?_) (fun hc hf => ?_)
    · refine lv_iload hx hb dX0_bestEyes_97 (lv_at hl 4 rfl) ?_
      refine r_if_ne (tgt := 105) X dX0_bestEyes_99 (by decide) hf (fun hc hf => ?_) (fun hc hf => ?_)
      · refine lv_iload hx hb dX0_bestEyes_105 (lv_at hl 4 rfl) ?_
        refine lv_iconst (v := mI 1) hx hb dX0_bestEyes_107 rfl ?_
        refine r_icmp_ne (tgt := 116) X dX0_bestEyes_108 (by decide) hf (fun hc hf => ?_) (fun hc hf => ?_)
        · refine lv_iload hx hb dX0_bestEyes_116 (lv_at hl 5 rfl) ?_
          exact w_X0_bestEyes_b118 X hw1 hw (lv_sub hl [0, 1] rfl) hf
        · refine lv_iload hx hb dX0_bestEyes_111 (lv_at hl 7 rfl) ?_
          refine lv_goto (tgt := 118) hx hb dX0_bestEyes_113 (by decide) ?_
          exact w_X0_bestEyes_b118 X hw1 hw (lv_sub hl [0, 1] rfl) hf
      · refine lv_iload hx hb dX0_bestEyes_102 (lv_at hl 6 rfl) ?_
        exact r_iret X hw dX0_bestEyes_104 hf
    · refine lv_iconst (v := mI 0) hx hb dX0_bestEyes_18 rfl ?_
      refine lv_istore (lv' := [(9, .int (mI 0)), (0, .ref (ad 26)), (1, .ref (ad w1)), (2, .int (mI x2)), (3, .int (mI x3)), (4, .int (mI x4)), (5, .int (mI x5)), (6, .int (mI x6)), (7, .int (mI x7)), (8, .int (mI x8))]) hx hb dX0_bestEyes_19 hl (by decide) rfl (fun ls hl => ?_)
      exact w_X0_bestEyes_h21 X hw1 hk12 _ hw (lv_sub hl [1, 2, 3, 4, 5, 6, 7, 8, 9, 0] rfl) hf
def g_X0_bestEyes (F : Nat) (w1 : Nat) (x2 x3 x4 : Int) (σ : mMem) : mRs := g_X0_bestEyes_h12 F w1 F x2 x3 x4 (-1) 0 0 0 σ
set_option maxRecDepth 100000 in
set_option maxHeartbeats 4000000 in
theorem c_X0_bestEyes (l : Launch) (D : va_G) (cy : Nat → ClassId) (ad : Nat → Nat) (bs : Nat) (F : Nat) (w1 : Nat) (x2 x3 x4 : Int) (σ : mMem) (r : Int) (σ' : mMem) (hw1 : mWorld w1) (hf : g_X0_bestEyes F w1 x2 x3 x4 σ = some (r, σ')) : mCi l D cy ad bs yX0_bestEyes cX0_bestEyes 11 (some .int) 7 [.ref (ad 26), .ref (ad w1), .int (mI x2), .int (mI x3), .int (mI x4)] σ r σ' := by
  refine mCi.of (lv := [(0, .ref (ad 26)), (1, .ref (ad w1)), (2, .int (mI x2)), (3, .int (mI x3)), (4, .int (mI x4))]) km_X0_bestEyes.2.2.2.2.2 (Nat.le_of_ble_eq_true rfl) rfl (fun p e s m args below meth c H locs ls X hw hl => ?_)
  obtain ⟨⟨hx, hb, -, -, -⟩, -⟩ := id X
  unfold g_X0_bestEyes at hf
  refine lv_iconst (v := mI (-1)) hx hb dX0_bestEyes_0 rfl ?_
  refine lv_istore (lv' := [(5, .int (mI (-1))), (0, .ref (ad 26)), (1, .ref (ad w1)), (2, .int (mI x2)), (3, .int (mI x3)), (4, .int (mI x4))]) hx hb dX0_bestEyes_1 hl (by decide) rfl (fun ls hl => ?_)
  refine lv_iconst (v := mI 0) hx hb dX0_bestEyes_3 rfl ?_
  refine lv_istore (lv' := [(6, .int (mI 0)), (5, .int (mI (-1))), (0, .ref (ad 26)), (1, .ref (ad w1)), (2, .int (mI x2)), (3, .int (mI x3)), (4, .int (mI x4))]) hx hb dX0_bestEyes_4 hl (by decide) rfl (fun ls hl => ?_)
  refine lv_iconst (v := mI 0) hx hb dX0_bestEyes_6 rfl ?_
  refine lv_istore (lv' := [(7, .int (mI 0)), (6, .int (mI 0)), (5, .int (mI (-1))), (0, .ref (ad 26)), (1, .ref (ad w1)), (2, .int (mI x2)), (3, .int (mI x3)), (4, .int (mI x4))]) hx hb dX0_bestEyes_7 hl (by decide) rfl (fun ls hl => ?_)
  refine lv_iconst (v := mI 0) hx hb dX0_bestEyes_9 rfl ?_
  refine lv_istore (lv' := [(8, .int (mI 0)), (7, .int (mI 0)), (6, .int (mI 0)), (5, .int (mI (-1))), (0, .ref (ad 26)), (1, .ref (ad w1)), (2, .int (mI x2)), (3, .int (mI x3)), (4, .int (mI x4))]) hx hb dX0_bestEyes_10 hl (by decide) rfl (fun ls hl => ?_)
  exact w_X0_bestEyes_h12 X hw1 _ hw (lv_sub hl [4, 5, 6, 7, 8, 3, 2, 1, 0] rfl) hf
def g_J7_fill_53178_h5 (F : Nat) (a0 n0 : Nat)  : Nat → Int → Int → Int → mMem → mRs
  | 0, _, _, _, _ => none
  | n + 1, x1, x2, x3, σ => if mw x3 ≤ mw x2 then (some (0, σ)) else (if 0 ≤ mw x2 ∧ mw x2 < (n0 : Int) then mlm (mup σ a0 (mw x2).toNat x1) (fun σ102 => (g_J7_fill_53178_h5 F a0 n0 n) x1 (x2 + 1) x3 σ102) else none)
set_option maxRecDepth 100000 in
set_option maxHeartbeats 4000000 in
theorem w_J7_fill_53178_h5 {p : Program} {l : Launch} {e : Env} {s : State} {m : MethodId} {args : Array Value} {below : List Frame} {meth : Method} {c : Code} {D : va_G} {cy : Nat → ClassId} {ad : Nat → Nat} {bs : Nat} {F : Nat} {a0 n0 : Nat} (X : mCx p m c cJ7_fill_53178 4 s args RJ7 meth D cy none) (ha0 : mSh a0 = (13, n0)) {r : Int} {σ' : mMem}   (n : Nat) : ∀ {x1 x2 x3 : Int} {σ : mMem} {H : Heap} {locs : List Loc} {ls : Array Slot} (_ : mWd D cy ad bs true mN σ s.heap H locs) (_ : lv_has ls 4 [(0, .ref (ad a0)), (1, .int (mI x1)), (2, .int (mI x2)), (3, .int (mI x3))]) (_ : g_J7_fill_53178_h5 F a0 n0 n x1 x2 x3 σ = some (r, σ')), mGv p l e 1 s m args below meth c D cy ad bs σ' H locs (F0 m 5 ls []) := by
  obtain ⟨⟨hx, hb, -, -, -⟩, -⟩ := id X
  induction n with
  | zero =>
    intro x1 x2 x3 σ H locs ls hw hl hf
    unfold g_J7_fill_53178_h5 at hf
    cases hf
  | succ n ih =>
    have hk5 : ∀ (x1 x2 x3 : Int) (σ : mMem) (H : Heap) (locs : List Loc) (ls : Array Slot), mWd D cy ad bs true mN σ s.heap H locs → lv_has ls 4 [(0, .ref (ad a0)), (1, .int (mI x1)), (2, .int (mI x2)), (3, .int (mI x3))] → g_J7_fill_53178_h5 F a0 n0 n x1 x2 x3 σ = some (r, σ') → mGv p l e 1 s m args below meth c D cy ad bs σ' H locs (F0 m 5 ls []) := fun x1 x2 x3 σ H locs ls hw hl hf => ih hw hl hf
    intro x1 x2 x3 σ H locs ls hw hl hf
    unfold g_J7_fill_53178_h5 at hf
    refine lv_iload_n hx hb dJ7_fill_53178_5 rfl (lv_at hl 2 rfl) ?_
    refine lv_iload_n hx hb dJ7_fill_53178_6 rfl (lv_at hl 3 rfl) ?_
    refine r_icmp_ge (tgt := 20) X dJ7_fill_53178_7 (by decide) hf (fun hc hf => ?_) (fun hc hf => ?_)
    · exact r_vret X hw dJ7_fill_53178_20 hf
    · refine lv_aload_n hx hb dJ7_fill_53178_10 rfl (lv_at hl 0 rfl) ?_
      refine lv_iload_n hx hb dJ7_fill_53178_11 rfl (lv_at hl 2 rfl) ?_
      refine lv_iload_n hx hb dJ7_fill_53178_12 rfl (lv_at hl 1 rfl) ?_
      refine r_iast (n0 : Int) rfl X hw ha0 dJ7_fill_53178_13 hf (fun hf H locs hw => ?_)
      refine r_mem hf hw (fun σ102 hw hf => ?_)
      refine lv_iinc (v := mI (x2 + 1)) (lv' := [(2, .int (mI (x2 + 1))), (0, .ref (ad a0)), (1, .int (mI x1)), (3, .int (mI x3))]) hx hb dJ7_fill_53178_14 hl (k := 2) rfl (mI_add _ _) (by decide) rfl (fun ls hl => ?_)
      refine lv_goto (tgt := 5) hx hb dJ7_fill_53178_17 (by decide) ?_
      exact hk5 x1 (x2 + 1) x3 σ102 _ _ _ hw (lv_sub hl [1, 2, 0, 3] rfl) hf
def g_J7_fill_53178 (F : Nat) (a0 n0 : Nat) (x1 : Int) (σ : mMem) : mRs := mlet (n0 : Int) (fun y1 => g_J7_fill_53178_h5 F a0 n0 F x1 0 y1 σ)
set_option maxRecDepth 100000 in
set_option maxHeartbeats 4000000 in
theorem c_J7_fill_53178 (l : Launch) (D : va_G) (cy : Nat → ClassId) (ad : Nat → Nat) (bs : Nat) (F : Nat) (a0 n0 : Nat) (x1 : Int) (σ : mMem) (r : Int) (σ' : mMem) (ha0 : mSh a0 = (13, n0)) (hf : g_J7_fill_53178 F a0 n0 x1 σ = some (r, σ')) : mCv l D cy ad bs yJ7_fill_53178 cJ7_fill_53178 4 none 1 [.ref (ad a0), .int (mI x1)] σ σ' := by
  refine mCv.of (lv := [(0, .ref (ad a0)), (1, .int (mI x1))]) km_J7_fill_53178.2.2.2.2.2 (Nat.le_of_ble_eq_true rfl) rfl (fun p e s m args below meth c H locs ls X hw hl => ?_)
  obtain ⟨⟨hx, hb, -, -, -⟩, -⟩ := id X
  unfold g_J7_fill_53178 at hf
  refine lv_iconst (v := mI 0) hx hb dJ7_fill_53178_0 rfl ?_
  refine lv_istore_n (lv' := [(2, .int (mI 0)), (0, .ref (ad a0)), (1, .int (mI x1))]) hx hb dJ7_fill_53178_1 rfl hl (by decide) rfl (fun ls hl => ?_)
  refine lv_aload_n hx hb dJ7_fill_53178_2 rfl (lv_at hl 1 rfl) ?_
  refine r_ileni (n0 : Int) rfl X hw ha0 dJ7_fill_53178_3 ?_
  refine r_leti hf (fun y1 hf => ?_)
  refine lv_istore_n (lv' := [(3, .int (mI y1)), (2, .int (mI 0)), (0, .ref (ad a0)), (1, .int (mI x1))]) hx hb dJ7_fill_53178_4 rfl hl (by decide) rfl (fun ls hl => ?_)
  exact w_J7_fill_53178_h5 X ha0 _ hw (lv_sub hl [2, 3, 1, 0] rfl) hf
def g_X0_reach_b76 (F : Nat)  (σ : mMem) : mRs := some (0, σ)
set_option maxRecDepth 100000 in
set_option maxHeartbeats 4000000 in
theorem w_X0_reach_b76 {p : Program} {l : Launch} {e : Env} {s : State} {m : MethodId} {args : Array Value} {below : List Frame} {meth : Method} {c : Code} {D : va_G} {cy : Nat → ClassId} {ad : Nat → Nat} {bs : Nat} {F : Nat}  (X : mCx p m c cX0_reach 6 s args RX0 meth D cy none)  {r : Int} {σ' : mMem}    {σ : mMem} {H : Heap} {locs : List Loc} {ls : Array Slot} (hw : mWd D cy ad bs true mN σ s.heap H locs) (hl : lv_has ls 6 [(0, .ref (ad 26))]) (hf : g_X0_reach_b76 F  σ = some (r, σ')) : mGv p l e 1 s m args below meth c D cy ad bs σ' H locs (F0 m 76 ls []) := by
  obtain ⟨⟨hx, hb, -, -, -⟩, -⟩ := id X
  unfold g_X0_reach_b76 at hf
  exact r_vret X hw dX0_reach_76 hf
def g_X0_reach (F : Nat) (x1 x2 x3 x4 : Int) (σ : mMem) : mRs := mlet ((4 * ((x2 * 9) + x1)) + x3) (fun y1 => if mw y1 < 0 then (g_X0_reach_b76 F σ) else (if mw 324 ≤ mw y1 then (g_X0_reach_b76 F σ) else (if mw 324 ≤ mw (σ 26 3) then (g_X0_reach_b76 F σ) else (if 0 ≤ mw y1 ∧ mw y1 < (324 : Int) then if ¬ mw (σ 27 (mw y1).toNat) = mw (-1) then (g_X0_reach_b76 F σ) else (if 0 ≤ mw y1 ∧ mw y1 < (324 : Int) then mlm (mup σ 27 (mw y1).toNat x4) (fun σ2 => if 0 ≤ mw (σ2 26 3) ∧ mw (σ2 26 3) < (324 : Int) then mlm (mup σ2 28 (mw (σ2 26 3)).toNat y1) (fun σ3 => mlm (mup σ3 26 3 ((σ3 26 3) + 1)) (fun σ4 => g_X0_reach_b76 F σ4)) else none) else none) else none))))
set_option maxRecDepth 100000 in
set_option maxHeartbeats 4000000 in
theorem c_X0_reach (l : Launch) (D : va_G) (cy : Nat → ClassId) (ad : Nat → Nat) (bs : Nat) (F : Nat)  (x1 x2 x3 x4 : Int) (σ : mMem) (r : Int) (σ' : mMem)  (hf : g_X0_reach F x1 x2 x3 x4 σ = some (r, σ')) : mCv l D cy ad bs yX0_reach cX0_reach 6 none 1 [.ref (ad 26), .int (mI x1), .int (mI x2), .int (mI x3), .int (mI x4)] σ σ' := by
  refine mCv.of (lv := [(0, .ref (ad 26)), (1, .int (mI x1)), (2, .int (mI x2)), (3, .int (mI x3)), (4, .int (mI x4))]) km_X0_reach.2.2.2.2.2 (Nat.le_of_ble_eq_true rfl) rfl (fun p e s m args below meth c H locs ls X hw hl => ?_)
  obtain ⟨⟨hx, hb, -, -, -⟩, -⟩ := id X
  unfold g_X0_reach at hf
  refine lv_iconst (v := mI 4) hx hb dX0_reach_0 rfl ?_
  refine lv_iload_n hx hb dX0_reach_1 rfl (lv_at hl 2 rfl) ?_
  refine lv_bipush (v := mI 9) hx hb dX0_reach_2 (by decide) ?_
  refine r_imul X dX0_reach_4 ?_
  refine lv_iload_n hx hb dX0_reach_5 rfl (lv_at hl 1 rfl) ?_
  refine r_iadd X dX0_reach_6 ?_
  refine r_imul X dX0_reach_7 ?_
  refine lv_iload_n hx hb dX0_reach_8 rfl (lv_at hl 3 rfl) ?_
  refine r_iadd X dX0_reach_9 ?_
  refine r_leti hf (fun y1 hf => ?_)
  refine lv_istore (lv' := [(5, .int (mI y1)), (0, .ref (ad 26)), (1, .int (mI x1)), (2, .int (mI x2)), (3, .int (mI x3)), (4, .int (mI x4))]) hx hb dX0_reach_10 hl (by decide) rfl (fun ls hl => ?_)
  refine lv_iload hx hb dX0_reach_12 (lv_at hl 0 rfl) ?_
  refine r_if_lt (tgt := 76) X dX0_reach_14 (by decide) hf (fun hc hf => ?_) (fun hc hf => ?_)
  · exact w_X0_reach_b76 X hw (lv_sub hl [1] rfl) hf
  · refine lv_iload hx hb dX0_reach_17 (lv_at hl 0 rfl) ?_
    refine lv_sipush (v := mI 324) hx hb dX0_reach_19 (by decide) ?_
    refine r_icmp_ge (tgt := 76) X dX0_reach_22 (by decide) hf (fun hc hf => ?_) (fun hc hf => ?_)
    · exact w_X0_reach_b76 X hw (lv_sub hl [1] rfl) hf
    · refine lv_aload_n hx hb dX0_reach_25 rfl (lv_at hl 1 rfl) ?_
      refine r_geti X hw sh_26 fd_0_3 rfl lf_X0_29 dX0_reach_26 ?_
      refine lv_sipush (v := mI 324) hx hb dX0_reach_29 (by decide) ?_
      refine r_icmp_ge (tgt := 76) X dX0_reach_32 (by decide) hf (fun hc hf => ?_) (fun hc hf => ?_)
      · exact w_X0_reach_b76 X hw (lv_sub hl [1] rfl) hf
      · refine lv_aload_n hx hb dX0_reach_35 rfl (lv_at hl 1 rfl) ?_
        refine r_getr 27 X hw sh_26 fd_0_1 rfl rfl lf_X0_13 dX0_reach_36 ?_
        refine lv_iload hx hb dX0_reach_39 (lv_at hl 0 rfl) ?_
        refine r_iald (324 : Int) rfl X hw sh_27 dX0_reach_41 hf (fun hf => ?_)
        refine lv_iconst (v := mI (-1)) hx hb dX0_reach_42 rfl ?_
        refine r_icmp_ne (tgt := 76) X dX0_reach_43 (by decide) hf (fun hc hf => ?_) (fun hc hf => ?_)
        · exact w_X0_reach_b76 X hw (lv_sub hl [1] rfl) hf
        · refine lv_aload_n hx hb dX0_reach_46 rfl (lv_at hl 1 rfl) ?_
          refine r_getr 27 X hw sh_26 fd_0_1 rfl rfl lf_X0_13 dX0_reach_47 ?_
          refine lv_iload hx hb dX0_reach_50 (lv_at hl 0 rfl) ?_
          refine lv_iload hx hb dX0_reach_52 (lv_at hl 5 rfl) ?_
          refine r_iast (324 : Int) rfl X hw sh_27 dX0_reach_54 hf (fun hf H locs hw => ?_)
          refine r_mem hf hw (fun σ2 hw hf => ?_)
          refine lv_aload_n hx hb dX0_reach_55 rfl (lv_at hl 1 rfl) ?_
          refine r_getr 28 X hw sh_26 fd_0_2 rfl rfl lf_X0_17 dX0_reach_56 ?_
          refine lv_aload_n hx hb dX0_reach_59 rfl (lv_at hl 1 rfl) ?_
          refine r_geti X hw sh_26 fd_0_3 rfl lf_X0_29 dX0_reach_60 ?_
          refine lv_iload hx hb dX0_reach_63 (lv_at hl 0 rfl) ?_
          refine r_iast (324 : Int) rfl X hw sh_28 dX0_reach_65 hf (fun hf H locs hw => ?_)
          refine r_mem hf hw (fun σ3 hw hf => ?_)
          refine lv_aload_n hx hb dX0_reach_66 rfl (lv_at hl 1 rfl) ?_
          refine lv_dup hx hb dX0_reach_67 rfl ?_
          refine r_geti X hw sh_26 fd_0_3 rfl lf_X0_29 dX0_reach_68 ?_
          refine lv_iconst (v := mI 1) hx hb dX0_reach_71 rfl ?_
          refine r_iadd X dX0_reach_72 ?_
          refine r_puti X hw sh_26 fd_0_3 fp_0_3 rfl rfl lf_X0_29 dX0_reach_73 (fun H locs hw => ?_)
          refine r_mem hf hw (fun σ4 hw hf => ?_)
          exact w_X0_reach_b76 X hw (lv_sub hl [1] rfl) hf
def g_X0_fewestMoves_b221 (F : Nat) (w1 : Nat)  (σ : mMem) : mRs := some ((-1), σ)
set_option maxRecDepth 100000 in
set_option maxHeartbeats 4000000 in
theorem w_X0_fewestMoves_b221 {p : Program} {l : Launch} {e : Env} {s : State} {m : MethodId} {args : Array Value} {below : List Frame} {meth : Method} {c : Code} {D : va_G} {cy : Nat → ClassId} {ad : Nat → Nat} {bs : Nat} {F : Nat} {w1 : Nat} (X : mCx p m c cX0_fewestMoves 12 s args RX0 meth D cy (some .int)) (hw1 : mWorld w1) {r : Int} {σ' : mMem}    {σ : mMem} {H : Heap} {locs : List Loc} {ls : Array Slot} (hw : mWd D cy ad bs true mN σ s.heap H locs) (hl : lv_has ls 12 [(0, .ref (ad 26)), (1, .ref (ad w1))]) (hf : g_X0_fewestMoves_b221 F w1  σ = some (r, σ')) : mGi p l e 4 s m args below meth c D cy ad bs r σ' H locs (F0 m 221 ls []) := by
  obtain ⟨⟨hx, hb, -, -, -⟩, -⟩ := id X
  unfold g_X0_fewestMoves_b221 at hf
  refine lv_iconst (v := mI (-1)) hx hb dX0_fewestMoves_221 rfl ?_
  exact r_iret X hw dX0_fewestMoves_222 hf
def g_X0_fewestMoves_b215 (F : Nat) (w1 : Nat) (k38 : Int → Int → mMem → mRs) (x2 x3 : Int) (σ : mMem) : mRs := k38 x2 (x3 + 1) σ
set_option maxRecDepth 100000 in
set_option maxHeartbeats 4000000 in
theorem w_X0_fewestMoves_b215 {p : Program} {l : Launch} {e : Env} {s : State} {m : MethodId} {args : Array Value} {below : List Frame} {meth : Method} {c : Code} {D : va_G} {cy : Nat → ClassId} {ad : Nat → Nat} {bs : Nat} {F : Nat} {w1 : Nat} (X : mCx p m c cX0_fewestMoves 12 s args RX0 meth D cy (some .int)) (hw1 : mWorld w1) {r : Int} {σ' : mMem} {k38 : Int → Int → mMem → mRs} (hk38 : ∀ (x2 x3 : Int) (σ : mMem) (H : Heap) (locs : List Loc) (ls : Array Slot), mWd D cy ad bs true mN σ s.heap H locs → lv_has ls 12 [(0, .ref (ad 26)), (1, .ref (ad w1)), (2, .int (mI x2)), (3, .int (mI x3))] → k38 x2 x3 σ = some (r, σ') → mGi p l e 4 s m args below meth c D cy ad bs r σ' H locs (F0 m 38 ls [])) {x2 x3 : Int} {σ : mMem} {H : Heap} {locs : List Loc} {ls : Array Slot} (hw : mWd D cy ad bs true mN σ s.heap H locs) (hl : lv_has ls 12 [(0, .ref (ad 26)), (1, .ref (ad w1)), (2, .int (mI x2)), (3, .int (mI x3))]) (hf : g_X0_fewestMoves_b215 F w1 k38 x2 x3 σ = some (r, σ')) : mGi p l e 4 s m args below meth c D cy ad bs r σ' H locs (F0 m 215 ls []) := by
  obtain ⟨⟨hx, hb, -, -, -⟩, -⟩ := id X
  unfold g_X0_fewestMoves_b215 at hf
  refine lv_iinc (v := mI (x3 + 1)) (lv' := [(3, .int (mI (x3 + 1))), (0, .ref (ad 26)), (1, .ref (ad w1)), (2, .int (mI x2))]) hx hb dX0_fewestMoves_215 hl (k := 3) rfl (mI_add _ _) (by decide) rfl (fun ls hl => ?_)
  refine lv_goto (tgt := 38) hx hb dX0_fewestMoves_218 (by decide) ?_
  exact hk38 x2 (x3 + 1) σ _ _ _ hw (lv_sub hl [1, 2, 3, 0] rfl) hf
def g_X0_fewestMoves_b203 (F : Nat) (w1 : Nat) (k38 : Int → Int → mMem → mRs) (x2 x3 x5 x8 x9 x10 : Int) (σ : mMem) : mRs := mob (g_X0_reach F x9 x10 x5 x8 σ) (fun r434 σ435 => g_X0_fewestMoves_b215 F w1 k38 x2 x3 σ435)
set_option maxRecDepth 100000 in
set_option maxHeartbeats 4000000 in
theorem w_X0_fewestMoves_b203 {p : Program} {l : Launch} {e : Env} {s : State} {m : MethodId} {args : Array Value} {below : List Frame} {meth : Method} {c : Code} {D : va_G} {cy : Nat → ClassId} {ad : Nat → Nat} {bs : Nat} {F : Nat} {w1 : Nat} (X : mCx p m c cX0_fewestMoves 12 s args RX0 meth D cy (some .int)) (hw1 : mWorld w1) {r : Int} {σ' : mMem} {k38 : Int → Int → mMem → mRs} (hk38 : ∀ (x2 x3 : Int) (σ : mMem) (H : Heap) (locs : List Loc) (ls : Array Slot), mWd D cy ad bs true mN σ s.heap H locs → lv_has ls 12 [(0, .ref (ad 26)), (1, .ref (ad w1)), (2, .int (mI x2)), (3, .int (mI x3))] → k38 x2 x3 σ = some (r, σ') → mGi p l e 4 s m args below meth c D cy ad bs r σ' H locs (F0 m 38 ls [])) {x2 x3 x5 x8 x9 x10 : Int} {σ : mMem} {H : Heap} {locs : List Loc} {ls : Array Slot} (hw : mWd D cy ad bs true mN σ s.heap H locs) (hl : lv_has ls 12 [(0, .ref (ad 26)), (1, .ref (ad w1)), (2, .int (mI x2)), (3, .int (mI x3)), (5, .int (mI x5)), (8, .int (mI x8)), (9, .int (mI x9)), (10, .int (mI x10))]) (hf : g_X0_fewestMoves_b203 F w1 k38 x2 x3 x5 x8 x9 x10 σ = some (r, σ')) : mGi p l e 4 s m args below meth c D cy ad bs r σ' H locs (F0 m 203 ls []) := by
  obtain ⟨⟨hx, hb, -, -, -⟩, -⟩ := id X
  unfold g_X0_fewestMoves_b203 at hf
  refine lv_aload_n hx hb dX0_fewestMoves_203 rfl (lv_at hl 0 rfl) ?_
  refine lv_iload hx hb dX0_fewestMoves_204 (lv_at hl 6 rfl) ?_
  refine lv_iload hx hb dX0_fewestMoves_206 (lv_at hl 7 rfl) ?_
  refine lv_iload hx hb dX0_fewestMoves_208 (lv_at hl 4 rfl) ?_
  refine lv_iload hx hb dX0_fewestMoves_210 (lv_at hl 5 rfl) ?_
  refine r_cvv (rest := []) [.int (mI x9), .int (mI x10), .int (mI x5), .int (mI x8)] X hw (fun ra σa h => c_X0_reach l D cy ad bs F x9 x10 x5 x8 σ ra σa  h) sh_26 rfl (by decide) rfl km_X0_reach kv_X0_reach lm_X0_87 dX0_fewestMoves_212 hl.1 rfl rfl (Nat.le_of_ble_eq_true rfl) ⟨by decide, by decide⟩ ⟨Nat.zero_le _, Nat.zero_le _⟩ hf (fun r434 σ435 _ hf H locs hw => ?_)
  exact w_X0_fewestMoves_b215 X hw1 hk38 hw (lv_sub hl [0, 1, 2, 3] rfl) hf
def g_X0_fewestMoves_h38 (F : Nat) (w1 : Nat)  : Nat → Int → Int → mMem → mRs
  | 0, _, _, _ => none
  | n + 1, x2, x3, σ => if mw (σ 26 3) ≤ mw x3 then (g_X0_fewestMoves_b221 F w1 σ) else (if mw 324 ≤ mw x3 then (g_X0_fewestMoves_b221 F w1 σ) else (if 0 ≤ mw x3 ∧ mw x3 < (324 : Int) then mlet (σ 28 (mw x3).toNat) (fun y112 => mlet (mand y112 3) (fun y113 => if mw 9 = 0 then none else (mlet ((mw (mshr y112 2)).tmod (mw 9)) (fun y114 => if mw 9 = 0 then none else (mlet ((mw (mshr y112 2)).tdiv (mw 9)) (fun y115 => mob (g_X10_isBlack F w1 y114 y115 σ) (fun r116 σ117 => if mw r116 = 0 then (if 0 ≤ mw y112 ∧ mw y112 < (324 : Int) then mlet ((σ117 27 (mw y112).toNat) + 1) (fun y118 => mob (g_X0_reach F y114 y115 (mand (y113 + 3) 3) y118 σ117) (fun r119 σ120 => mob (g_X0_reach F y114 y115 (mand (y113 + 1) 3) y118 σ120) (fun r121 σ122 => mob (g_X10_columnStep F y113 σ122) (fun r123 σ124 => mlet (y114 + r123) (fun y125 => mob (g_X10_rowStep F y113 σ124) (fun r126 σ127 => mlet (y115 + r126) (fun y128 => mob (g_X10_boxOn F w1 y125 y128 σ127) (fun r129 σ130 => if σ130 w1 3 = 3 ∨ σ130 w1 3 = 8 then mob (g_X5_hasCell F (σ130 w1 3).toNat y125 y128 σ130) (fun r132 σ133 => if mw r132 = 0 then (g_X0_fewestMoves_b215 F w1 (g_X0_fewestMoves_h38 F w1 n) x2 x3 σ133) else (if mw r129 = mw (-1) then (g_X0_fewestMoves_b203 F w1 (g_X0_fewestMoves_h38 F w1 n) x2 x3 y113 y118 y125 y128 σ133) else (if ¬ mw r129 = mw x2 then (g_X0_fewestMoves_b215 F w1 (g_X0_fewestMoves_h38 F w1 n) x2 x3 σ133) else (g_X0_fewestMoves_b203 F w1 (g_X0_fewestMoves_h38 F w1 n) x2 x3 y113 y118 y125 y128 σ133)))) else none)))))))) else none) else (if 0 ≤ mw y112 ∧ mw y112 < (324 : Int) then some (σ117 27 (mw y112).toNat, σ117) else none)))))))) else none))
set_option maxRecDepth 100000 in
set_option maxHeartbeats 4000000 in
theorem w_X0_fewestMoves_h38 {p : Program} {l : Launch} {e : Env} {s : State} {m : MethodId} {args : Array Value} {below : List Frame} {meth : Method} {c : Code} {D : va_G} {cy : Nat → ClassId} {ad : Nat → Nat} {bs : Nat} {F : Nat} {w1 : Nat} (X : mCx p m c cX0_fewestMoves 12 s args RX0 meth D cy (some .int)) (hw1 : mWorld w1) {r : Int} {σ' : mMem}   (n : Nat) : ∀ {x2 x3 : Int} {σ : mMem} {H : Heap} {locs : List Loc} {ls : Array Slot} (_ : mWd D cy ad bs true mN σ s.heap H locs) (_ : lv_has ls 12 [(0, .ref (ad 26)), (1, .ref (ad w1)), (2, .int (mI x2)), (3, .int (mI x3))]) (_ : g_X0_fewestMoves_h38 F w1 n x2 x3 σ = some (r, σ')), mGi p l e 4 s m args below meth c D cy ad bs r σ' H locs (F0 m 38 ls []) := by
  obtain ⟨⟨hx, hb, -, -, -⟩, -⟩ := id X
  induction n with
  | zero =>
    intro x2 x3 σ H locs ls hw hl hf
    unfold g_X0_fewestMoves_h38 at hf
    cases hf
  | succ n ih =>
    have hk38 : ∀ (x2 x3 : Int) (σ : mMem) (H : Heap) (locs : List Loc) (ls : Array Slot), mWd D cy ad bs true mN σ s.heap H locs → lv_has ls 12 [(0, .ref (ad 26)), (1, .ref (ad w1)), (2, .int (mI x2)), (3, .int (mI x3))] → g_X0_fewestMoves_h38 F w1 n x2 x3 σ = some (r, σ') → mGi p l e 4 s m args below meth c D cy ad bs r σ' H locs (F0 m 38 ls []) := fun x2 x3 σ H locs ls hw hl hf => ih hw hl hf
    intro x2 x3 σ H locs ls hw hl hf
    unfold g_X0_fewestMoves_h38 at hf
    refine lv_iload_n hx hb dX0_fewestMoves_38 rfl (lv_at hl 3 rfl) ?_
    refine lv_aload_n hx hb dX0_fewestMoves_39 rfl (lv_at hl 0 rfl) ?_
    refine r_geti X hw sh_26 fd_0_3 rfl lf_X0_29 dX0_fewestMoves_40 ?_
    refine r_icmp_ge (tgt := 221) X dX0_fewestMoves_43 (by decide) hf (fun hc hf => ?_) (fun hc hf => ?_)
    · exact w_X0_fewestMoves_b221 X hw1 hw (lv_sub hl [0, 1] rfl) hf
    · refine lv_iload_n hx hb dX0_fewestMoves_46 rfl (lv_at hl 3 rfl) ?_
      refine lv_sipush (v := mI 324) hx hb dX0_fewestMoves_47 (by decide) ?_
      refine r_icmp_ge (tgt := 221) X dX0_fewestMoves_50 (by decide) hf (fun hc hf => ?_) (fun hc hf => ?_)
      · exact w_X0_fewestMoves_b221 X hw1 hw (lv_sub hl [0, 1] rfl) hf
      · refine lv_aload_n hx hb dX0_fewestMoves_53 rfl (lv_at hl 0 rfl) ?_
        refine r_getr 28 X hw sh_26 fd_0_2 rfl rfl lf_X0_17 dX0_fewestMoves_54 ?_
        refine lv_iload_n hx hb dX0_fewestMoves_57 rfl (lv_at hl 3 rfl) ?_
        refine r_iald (324 : Int) rfl X hw sh_28 dX0_fewestMoves_58 hf (fun hf => ?_)
        refine r_leti hf (fun y112 hf => ?_)
        refine lv_istore (lv' := [(4, .int (mI y112)), (0, .ref (ad 26)), (1, .ref (ad w1)), (2, .int (mI x2)), (3, .int (mI x3))]) hx hb dX0_fewestMoves_59 hl (by decide) rfl (fun ls hl => ?_)
        refine lv_iload hx hb dX0_fewestMoves_61 (lv_at hl 0 rfl) ?_
        refine lv_iconst (v := mI 3) hx hb dX0_fewestMoves_63 rfl ?_
        refine r_iand X dX0_fewestMoves_64 ?_
        refine r_leti hf (fun y113 hf => ?_)
        refine lv_istore (lv' := [(5, .int (mI y113)), (4, .int (mI y112)), (0, .ref (ad 26)), (1, .ref (ad w1)), (2, .int (mI x2)), (3, .int (mI x3))]) hx hb dX0_fewestMoves_65 hl (by decide) rfl (fun ls hl => ?_)
        refine lv_iload hx hb dX0_fewestMoves_67 (lv_at hl 1 rfl) ?_
        refine lv_iconst (v := mI 2) hx hb dX0_fewestMoves_69 rfl ?_
        refine r_ishr X dX0_fewestMoves_70 ?_
        refine lv_bipush (v := mI 9) hx hb dX0_fewestMoves_71 (by decide) ?_
        refine r_irem X dX0_fewestMoves_73 hf (fun hf => ?_)
        refine r_leti hf (fun y114 hf => ?_)
        refine lv_istore (lv' := [(6, .int (mI y114)), (5, .int (mI y113)), (4, .int (mI y112)), (0, .ref (ad 26)), (1, .ref (ad w1)), (2, .int (mI x2)), (3, .int (mI x3))]) hx hb dX0_fewestMoves_74 hl (by decide) rfl (fun ls hl => ?_)
        refine lv_iload hx hb dX0_fewestMoves_76 (lv_at hl 2 rfl) ?_
        refine lv_iconst (v := mI 2) hx hb dX0_fewestMoves_78 rfl ?_
        refine r_ishr X dX0_fewestMoves_79 ?_
        refine lv_bipush (v := mI 9) hx hb dX0_fewestMoves_80 (by decide) ?_
        refine r_idiv X dX0_fewestMoves_82 hf (fun hf => ?_)
        refine r_leti hf (fun y115 hf => ?_)
        refine lv_istore (lv' := [(7, .int (mI y115)), (6, .int (mI y114)), (5, .int (mI y113)), (4, .int (mI y112)), (0, .ref (ad 26)), (1, .ref (ad w1)), (2, .int (mI x2)), (3, .int (mI x3))]) hx hb dX0_fewestMoves_83 hl (by decide) rfl (fun ls hl => ?_)
        refine lv_aload_n hx hb dX0_fewestMoves_85 rfl (lv_at hl 5 rfl) ?_
        refine lv_iload hx hb dX0_fewestMoves_86 (lv_at hl 1 rfl) ?_
        refine lv_iload hx hb dX0_fewestMoves_88 (lv_at hl 0 rfl) ?_
        refine r_cvi (rest := []) [.int (mI y114), .int (mI y115)] X hw (fun ra σa h => c_X10_isBlack l D cy ad bs F w1 y114 y115 σ ra σa hw1 h) hw1.1 rfl (by decide) rfl km_X10_isBlack kv_X10_isBlack lm_X0_91 dX0_fewestMoves_90 hl.1 rfl rfl (Nat.le_of_ble_eq_true rfl) ⟨by decide, by decide⟩ ⟨Nat.zero_le _, Nat.zero_le _⟩ hf (fun r116 σ117 _ hf H locs hw => ?_)
        refine r_if_eq (tgt := 104) X dX0_fewestMoves_93 (by decide) hf (fun hc hf => ?_) (fun hc hf => ?_)
        · refine lv_aload_n hx hb dX0_fewestMoves_104 rfl (lv_at hl 4 rfl) ?_
          refine r_getr 27 X hw sh_26 fd_0_1 rfl rfl lf_X0_13 dX0_fewestMoves_105 ?_
          refine lv_iload hx hb dX0_fewestMoves_108 (lv_at hl 3 rfl) ?_
          refine r_iald (324 : Int) rfl X hw sh_27 dX0_fewestMoves_110 hf (fun hf => ?_)
          refine lv_iconst (v := mI 1) hx hb dX0_fewestMoves_111 rfl ?_
          refine r_iadd X dX0_fewestMoves_112 ?_
          refine r_leti hf (fun y118 hf => ?_)
          refine lv_istore (lv' := [(8, .int (mI y118)), (7, .int (mI y115)), (6, .int (mI y114)), (5, .int (mI y113)), (4, .int (mI y112)), (0, .ref (ad 26)), (1, .ref (ad w1)), (2, .int (mI x2)), (3, .int (mI x3))]) hx hb dX0_fewestMoves_113 hl (by decide) rfl (fun ls hl => ?_)
          refine lv_aload_n hx hb dX0_fewestMoves_115 rfl (lv_at hl 5 rfl) ?_
          refine lv_iload hx hb dX0_fewestMoves_116 (lv_at hl 2 rfl) ?_
          refine lv_iload hx hb dX0_fewestMoves_118 (lv_at hl 1 rfl) ?_
          refine lv_iload hx hb dX0_fewestMoves_120 (lv_at hl 3 rfl) ?_
          refine lv_iconst (v := mI 3) hx hb dX0_fewestMoves_122 rfl ?_
          refine r_iadd X dX0_fewestMoves_123 ?_
          refine lv_iconst (v := mI 3) hx hb dX0_fewestMoves_124 rfl ?_
          refine r_iand X dX0_fewestMoves_125 ?_
          refine lv_iload hx hb dX0_fewestMoves_126 (lv_at hl 0 rfl) ?_
          refine r_cvv (rest := []) [.int (mI y114), .int (mI y115), .int (mI (mand (y113 + 3) 3)), .int (mI y118)] X hw (fun ra σa h => c_X0_reach l D cy ad bs F y114 y115 (mand (y113 + 3) 3) y118 σ117 ra σa  h) sh_26 rfl (by decide) rfl km_X0_reach kv_X0_reach lm_X0_87 dX0_fewestMoves_128 hl.1 rfl rfl (Nat.le_of_ble_eq_true rfl) ⟨by decide, by decide⟩ ⟨Nat.zero_le _, Nat.zero_le _⟩ hf (fun r119 σ120 _ hf H locs hw => ?_)
          refine lv_aload_n hx hb dX0_fewestMoves_131 rfl (lv_at hl 5 rfl) ?_
          refine lv_iload hx hb dX0_fewestMoves_132 (lv_at hl 2 rfl) ?_
          refine lv_iload hx hb dX0_fewestMoves_134 (lv_at hl 1 rfl) ?_
          refine lv_iload hx hb dX0_fewestMoves_136 (lv_at hl 3 rfl) ?_
          refine lv_iconst (v := mI 1) hx hb dX0_fewestMoves_138 rfl ?_
          refine r_iadd X dX0_fewestMoves_139 ?_
          refine lv_iconst (v := mI 3) hx hb dX0_fewestMoves_140 rfl ?_
          refine r_iand X dX0_fewestMoves_141 ?_
          refine lv_iload hx hb dX0_fewestMoves_142 (lv_at hl 0 rfl) ?_
          refine r_cvv (rest := []) [.int (mI y114), .int (mI y115), .int (mI (mand (y113 + 1) 3)), .int (mI y118)] X hw (fun ra σa h => c_X0_reach l D cy ad bs F y114 y115 (mand (y113 + 1) 3) y118 σ120 ra σa  h) sh_26 rfl (by decide) rfl km_X0_reach kv_X0_reach lm_X0_87 dX0_fewestMoves_144 hl.1 rfl rfl (Nat.le_of_ble_eq_true rfl) ⟨by decide, by decide⟩ ⟨Nat.zero_le _, Nat.zero_le _⟩ hf (fun r121 σ122 _ hf H locs hw => ?_)
          refine lv_iload hx hb dX0_fewestMoves_147 (lv_at hl 2 rfl) ?_
          refine lv_iload hx hb dX0_fewestMoves_149 (lv_at hl 3 rfl) ?_
          refine r_csi (rest := [.int (mI y114)]) [.int (mI y113)] X hw (fun ra σa h => c_X10_columnStep l D cy ad bs F y113 σ122 ra σa  h) km_X10_columnStep ks_X10_columnStep lm_X0_95 dX0_fewestMoves_151 hl.1 rfl rfl (Nat.le_of_ble_eq_true rfl) ⟨by decide, by decide⟩ ⟨Nat.zero_le _, Nat.zero_le _⟩ hf (fun r123 σ124 _ hf H locs hw => ?_)
          refine r_iadd X dX0_fewestMoves_154 ?_
          refine r_leti hf (fun y125 hf => ?_)
          refine lv_istore (lv' := [(9, .int (mI y125)), (8, .int (mI y118)), (7, .int (mI y115)), (6, .int (mI y114)), (5, .int (mI y113)), (4, .int (mI y112)), (0, .ref (ad 26)), (1, .ref (ad w1)), (2, .int (mI x2)), (3, .int (mI x3))]) hx hb dX0_fewestMoves_155 hl (by decide) rfl (fun ls hl => ?_)
          refine lv_iload hx hb dX0_fewestMoves_157 (lv_at hl 2 rfl) ?_
          refine lv_iload hx hb dX0_fewestMoves_159 (lv_at hl 4 rfl) ?_
          refine r_csi (rest := [.int (mI y115)]) [.int (mI y113)] X hw (fun ra σa h => c_X10_rowStep l D cy ad bs F y113 σ124 ra σa  h) km_X10_rowStep ks_X10_rowStep lm_X0_98 dX0_fewestMoves_161 hl.1 rfl rfl (Nat.le_of_ble_eq_true rfl) ⟨by decide, by decide⟩ ⟨Nat.zero_le _, Nat.zero_le _⟩ hf (fun r126 σ127 _ hf H locs hw => ?_)
          refine r_iadd X dX0_fewestMoves_164 ?_
          refine r_leti hf (fun y128 hf => ?_)
          refine lv_istore (lv' := [(10, .int (mI y128)), (9, .int (mI y125)), (8, .int (mI y118)), (7, .int (mI y115)), (6, .int (mI y114)), (5, .int (mI y113)), (4, .int (mI y112)), (0, .ref (ad 26)), (1, .ref (ad w1)), (2, .int (mI x2)), (3, .int (mI x3))]) hx hb dX0_fewestMoves_165 hl (by decide) rfl (fun ls hl => ?_)
          refine lv_aload_n hx hb dX0_fewestMoves_167 rfl (lv_at hl 8 rfl) ?_
          refine lv_iload hx hb dX0_fewestMoves_168 (lv_at hl 1 rfl) ?_
          refine lv_iload hx hb dX0_fewestMoves_170 (lv_at hl 0 rfl) ?_
          refine r_cvi (rest := []) [.int (mI y125), .int (mI y128)] X hw (fun ra σa h => c_X10_boxOn l D cy ad bs F w1 y125 y128 σ127 ra σa hw1 h) hw1.1 rfl (by decide) rfl km_X10_boxOn kv_X10_boxOn lm_X0_101 dX0_fewestMoves_172 hl.1 rfl rfl (Nat.le_of_ble_eq_true rfl) ⟨by decide, by decide⟩ ⟨Nat.zero_le _, Nat.zero_le _⟩ hf (fun r129 σ130 _ hf H locs hw => ?_)
          refine lv_istore (lv' := [(11, .int (mI r129)), (10, .int (mI y128)), (9, .int (mI y125)), (8, .int (mI y118)), (7, .int (mI y115)), (6, .int (mI y114)), (5, .int (mI y113)), (4, .int (mI y112)), (0, .ref (ad 26)), (1, .ref (ad w1)), (2, .int (mI x2)), (3, .int (mI x3))]) hx hb dX0_fewestMoves_175 hl (by decide) rfl (fun ls hl => ?_)
          refine lv_aload_n hx hb dX0_fewestMoves_177 rfl (lv_at hl 9 rfl) ?_
          refine r_getp X hw hw1.1 fd_10_3 rfl lf_X0_104 dX0_fewestMoves_178 hf (fun hg131 hf => ?_)
          refine lv_iload hx hb dX0_fewestMoves_181 (lv_at hl 2 rfl) ?_
          refine lv_iload hx hb dX0_fewestMoves_183 (lv_at hl 1 rfl) ?_
          refine r_cvi (rest := []) [.int (mI y125), .int (mI y128)] X hw (fun ra σa h => c_X5_hasCell l D cy ad bs F (σ130 w1 3).toNat y125 y128 σ130 ra σa (mPlan_z hg131) h) (mPlan_z hg131).1 rfl (by decide) rfl km_X5_hasCell kv_X5_hasCell lm_X0_108 dX0_fewestMoves_185 hl.1 rfl rfl (Nat.le_of_ble_eq_true rfl) ⟨by decide, by decide⟩ ⟨Nat.zero_le _, Nat.zero_le _⟩ hf (fun r132 σ133 _ hf H locs hw => ?_)
          refine r_if_eq (tgt := 215) X dX0_fewestMoves_188 (by decide) hf (fun hc hf => ?_) (fun hc hf => ?_)
          · exact w_X0_fewestMoves_b215 X hw1 hk38 hw (lv_sub hl [8, 9, 10, 11] rfl) hf
          · refine lv_iload hx hb dX0_fewestMoves_191 (lv_at hl 0 rfl) ?_
            refine lv_iconst (v := mI (-1)) hx hb dX0_fewestMoves_193 rfl ?_
            refine r_icmp_eq (tgt := 203) X dX0_fewestMoves_194 (by decide) hf (fun hc hf => ?_) (fun hc hf => ?_)
            · exact w_X0_fewestMoves_b203 X hw1 hk38 hw (lv_sub hl [8, 9, 10, 11, 6, 3, 2, 1] rfl) hf
            · refine lv_iload hx hb dX0_fewestMoves_197 (lv_at hl 0 rfl) ?_
              refine lv_iload_n hx hb dX0_fewestMoves_199 rfl (lv_at hl 10 rfl) ?_
              refine r_icmp_ne (tgt := 215) X dX0_fewestMoves_200 (by decide) hf (fun hc hf => ?_) (fun hc hf => ?_)
              · exact w_X0_fewestMoves_b215 X hw1 hk38 hw (lv_sub hl [8, 9, 10, 11] rfl) hf
              · exact w_X0_fewestMoves_b203 X hw1 hk38 hw (lv_sub hl [8, 9, 10, 11, 6, 3, 2, 1] rfl) hf
        · refine lv_aload_n hx hb dX0_fewestMoves_96 rfl (lv_at hl 4 rfl) ?_
          refine r_getr 27 X hw sh_26 fd_0_1 rfl rfl lf_X0_13 dX0_fewestMoves_97 ?_
          refine lv_iload hx hb dX0_fewestMoves_100 (lv_at hl 3 rfl) ?_
          refine r_iald (324 : Int) rfl X hw sh_27 dX0_fewestMoves_102 hf (fun hf => ?_)
          exact r_iret X hw dX0_fewestMoves_103 hf
def g_X0_fewestMoves (F : Nat) (w1 : Nat) (x2 : Int) (σ : mMem) : mRs := mob (g_J7_fill_53178 F 27 324 (-1) σ) (fun r1 σ2 => mlm (mup σ2 26 3 0) (fun σ3 => mob (g_X10_of F w1 x2 0 σ3) (fun r4 σ5 => mob (g_X10_of F w1 x2 1 σ5) (fun r6 σ7 => mob (g_X10_of F w1 x2 2 σ7) (fun r8 σ9 => mob (g_X0_reach F r4 r6 r8 0 σ9) (fun r10 σ11 => g_X0_fewestMoves_h38 F w1 F x2 0 σ11))))))
set_option maxRecDepth 100000 in
set_option maxHeartbeats 4000000 in
theorem c_X0_fewestMoves (l : Launch) (D : va_G) (cy : Nat → ClassId) (ad : Nat → Nat) (bs : Nat) (F : Nat) (w1 : Nat) (x2 : Int) (σ : mMem) (r : Int) (σ' : mMem) (hw1 : mWorld w1) (hf : g_X0_fewestMoves F w1 x2 σ = some (r, σ')) : mCi l D cy ad bs yX0_fewestMoves cX0_fewestMoves 12 (some .int) 4 [.ref (ad 26), .ref (ad w1), .int (mI x2)] σ r σ' := by
  refine mCi.of (lv := [(0, .ref (ad 26)), (1, .ref (ad w1)), (2, .int (mI x2))]) km_X0_fewestMoves.2.2.2.2.2 (Nat.le_of_ble_eq_true rfl) rfl (fun p e s m args below meth c H locs ls X hw hl => ?_)
  obtain ⟨⟨hx, hb, -, -, -⟩, -⟩ := id X
  unfold g_X0_fewestMoves at hf
  refine lv_aload_n hx hb dX0_fewestMoves_0 rfl (lv_at hl 0 rfl) ?_
  refine r_getr 27 X hw sh_26 fd_0_1 rfl rfl lf_X0_13 dX0_fewestMoves_1 ?_
  refine lv_iconst (v := mI (-1)) hx hb dX0_fewestMoves_4 rfl ?_
  refine r_csv (rest := []) [.ref (ad 27), .int (mI (-1))] X hw (fun ra σa h => c_J7_fill_53178 l D cy ad bs F 27 324 (-1) σ ra σa sh_27 h) km_J7_fill_53178 ks_J7_fill_53178 lm_X0_81 dX0_fewestMoves_5 hl.1 rfl rfl (Nat.le_of_ble_eq_true rfl) ⟨by decide, by decide⟩ ⟨Nat.zero_le _, Nat.zero_le _⟩ hf (fun r1 σ2 _ hf H locs hw => ?_)
  refine lv_aload_n hx hb dX0_fewestMoves_8 rfl (lv_at hl 0 rfl) ?_
  refine lv_iconst (v := mI 0) hx hb dX0_fewestMoves_9 rfl ?_
  refine r_puti X hw sh_26 fd_0_3 fp_0_3 rfl rfl lf_X0_29 dX0_fewestMoves_10 (fun H locs hw => ?_)
  refine r_mem hf hw (fun σ3 hw hf => ?_)
  refine lv_aload_n hx hb dX0_fewestMoves_13 rfl (lv_at hl 0 rfl) ?_
  refine lv_aload_n hx hb dX0_fewestMoves_14 rfl (lv_at hl 1 rfl) ?_
  refine lv_iload_n hx hb dX0_fewestMoves_15 rfl (lv_at hl 2 rfl) ?_
  refine lv_iconst (v := mI 0) hx hb dX0_fewestMoves_16 rfl ?_
  refine r_cvi (rest := [.ref (ad 26)]) [.int (mI x2), .int (mI 0)] X hw (fun ra σa h => c_X10_of l D cy ad bs F w1 x2 0 σ3 ra σa hw1 h) hw1.1 rfl (by decide) rfl km_X10_of kv_X10_of lm_X0_45 dX0_fewestMoves_17 hl.1 rfl rfl (Nat.le_of_ble_eq_true rfl) ⟨by decide, by decide⟩ ⟨Nat.zero_le _, Nat.zero_le _⟩ hf (fun r4 σ5 _ hf H locs hw => ?_)
  refine lv_aload_n hx hb dX0_fewestMoves_20 rfl (lv_at hl 1 rfl) ?_
  refine lv_iload_n hx hb dX0_fewestMoves_21 rfl (lv_at hl 2 rfl) ?_
  refine lv_iconst (v := mI 1) hx hb dX0_fewestMoves_22 rfl ?_
  refine r_cvi (rest := [.int (mI r4), .ref (ad 26)]) [.int (mI x2), .int (mI 1)] X hw (fun ra σa h => c_X10_of l D cy ad bs F w1 x2 1 σ5 ra σa hw1 h) hw1.1 rfl (by decide) rfl km_X10_of kv_X10_of lm_X0_45 dX0_fewestMoves_23 hl.1 rfl rfl (Nat.le_of_ble_eq_true rfl) ⟨by decide, by decide⟩ ⟨Nat.zero_le _, Nat.zero_le _⟩ hf (fun r6 σ7 _ hf H locs hw => ?_)
  refine lv_aload_n hx hb dX0_fewestMoves_26 rfl (lv_at hl 1 rfl) ?_
  refine lv_iload_n hx hb dX0_fewestMoves_27 rfl (lv_at hl 2 rfl) ?_
  refine lv_iconst (v := mI 2) hx hb dX0_fewestMoves_28 rfl ?_
  refine r_cvi (rest := [.int (mI r6), .int (mI r4), .ref (ad 26)]) [.int (mI x2), .int (mI 2)] X hw (fun ra σa h => c_X10_of l D cy ad bs F w1 x2 2 σ7 ra σa hw1 h) hw1.1 rfl (by decide) rfl km_X10_of kv_X10_of lm_X0_45 dX0_fewestMoves_29 hl.1 rfl rfl (Nat.le_of_ble_eq_true rfl) ⟨by decide, by decide⟩ ⟨Nat.zero_le _, Nat.zero_le _⟩ hf (fun r8 σ9 _ hf H locs hw => ?_)
  refine lv_iconst (v := mI 0) hx hb dX0_fewestMoves_32 rfl ?_
  refine r_cvv (rest := []) [.int (mI r4), .int (mI r6), .int (mI r8), .int (mI 0)] X hw (fun ra σa h => c_X0_reach l D cy ad bs F r4 r6 r8 0 σ9 ra σa  h) sh_26 rfl (by decide) rfl km_X0_reach kv_X0_reach lm_X0_87 dX0_fewestMoves_33 hl.1 rfl rfl (Nat.le_of_ble_eq_true rfl) ⟨by decide, by decide⟩ ⟨Nat.zero_le _, Nat.zero_le _⟩ hf (fun r10 σ11 _ hf H locs hw => ?_)
  refine lv_iconst (v := mI 0) hx hb dX0_fewestMoves_36 rfl ?_
  refine lv_istore_n (lv' := [(3, .int (mI 0)), (0, .ref (ad 26)), (1, .ref (ad w1)), (2, .int (mI x2))]) hx hb dX0_fewestMoves_37 rfl hl (by decide) rfl (fun ls hl => ?_)
  exact w_X0_fewestMoves_h38 X hw1 _ hw (lv_sub hl [1, 2, 3, 0] rfl) hf
def g_X0_leastDelay_b66 (F : Nat) (w1 : Nat) (k2 : Int → Int → mMem → mRs) (x2 x3 x4 : Int) (σ : mMem) : mRs := if mw x4 = 0 then (k2 x2 (x3 + 1) σ) else (some (x3, σ))
set_option maxRecDepth 100000 in
set_option maxHeartbeats 4000000 in
theorem w_X0_leastDelay_b66 {p : Program} {l : Launch} {e : Env} {s : State} {m : MethodId} {args : Array Value} {below : List Frame} {meth : Method} {c : Code} {D : va_G} {cy : Nat → ClassId} {ad : Nat → Nat} {bs : Nat} {F : Nat} {w1 : Nat} (X : mCx p m c cX0_leastDelay 6 s args RX0 meth D cy (some .int)) (hw1 : mWorld w1) {r : Int} {σ' : mMem} {k2 : Int → Int → mMem → mRs} (hk2 : ∀ (x2 x3 : Int) (σ : mMem) (H : Heap) (locs : List Loc) (ls : Array Slot), mWd D cy ad bs true mN σ s.heap H locs → lv_has ls 6 [(0, .ref (ad 26)), (1, .ref (ad w1)), (2, .int (mI x2)), (3, .int (mI x3))] → k2 x2 x3 σ = some (r, σ') → mGi p l e 6 s m args below meth c D cy ad bs r σ' H locs (F0 m 2 ls [])) {x2 x3 x4 : Int} {σ : mMem} {H : Heap} {locs : List Loc} {ls : Array Slot} (hw : mWd D cy ad bs true mN σ s.heap H locs) (hl : lv_has ls 6 [(0, .ref (ad 26)), (1, .ref (ad w1)), (2, .int (mI x2)), (3, .int (mI x3)), (4, .int (mI x4))]) (hf : g_X0_leastDelay_b66 F w1 k2 x2 x3 x4 σ = some (r, σ')) : mGi p l e 6 s m args below meth c D cy ad bs r σ' H locs (F0 m 66 ls []) := by
  obtain ⟨⟨hx, hb, -, -, -⟩, -⟩ := id X
  unfold g_X0_leastDelay_b66 at hf
  refine lv_iload hx hb dX0_leastDelay_66 (lv_at hl 4 rfl) ?_
  refine r_if_eq (tgt := 73) X dX0_leastDelay_68 (by decide) hf (fun hc hf => ?_) (fun hc hf => ?_)
  · refine lv_iinc (v := mI (x3 + 1)) (lv' := [(3, .int (mI (x3 + 1))), (0, .ref (ad 26)), (1, .ref (ad w1)), (2, .int (mI x2)), (4, .int (mI x4))]) hx hb dX0_leastDelay_73 hl (k := 3) rfl (mI_add _ _) (by decide) rfl (fun ls hl => ?_)
    refine lv_goto (tgt := 2) hx hb dX0_leastDelay_76 (by decide) ?_
    exact hk2 x2 (x3 + 1) σ _ _ _ hw (lv_sub hl [1, 2, 3, 0] rfl) hf
  · refine lv_iload_n hx hb dX0_leastDelay_71 rfl (lv_at hl 3 rfl) ?_
    exact r_iret X hw dX0_leastDelay_72 hf
def g_X0_leastDelay_b58 (F : Nat) (w1 : Nat) (k2 : Int → Int → mMem → mRs) (k22 : Int → Int → Int → Int → mMem → mRs) (x2 x3 x5 t0 : Int) (σ : mMem) : mRs := k22 x2 x3 t0 (x5 + 1) σ
set_option maxRecDepth 100000 in
set_option maxHeartbeats 4000000 in
theorem w_X0_leastDelay_b58 {p : Program} {l : Launch} {e : Env} {s : State} {m : MethodId} {args : Array Value} {below : List Frame} {meth : Method} {c : Code} {D : va_G} {cy : Nat → ClassId} {ad : Nat → Nat} {bs : Nat} {F : Nat} {w1 : Nat} (X : mCx p m c cX0_leastDelay 6 s args RX0 meth D cy (some .int)) (hw1 : mWorld w1) {r : Int} {σ' : mMem} {k2 : Int → Int → mMem → mRs} {k22 : Int → Int → Int → Int → mMem → mRs} (hk2 : ∀ (x2 x3 : Int) (σ : mMem) (H : Heap) (locs : List Loc) (ls : Array Slot), mWd D cy ad bs true mN σ s.heap H locs → lv_has ls 6 [(0, .ref (ad 26)), (1, .ref (ad w1)), (2, .int (mI x2)), (3, .int (mI x3))] → k2 x2 x3 σ = some (r, σ') → mGi p l e 6 s m args below meth c D cy ad bs r σ' H locs (F0 m 2 ls [])) (hk22 : ∀ (x2 x3 x4 x5 : Int) (σ : mMem) (H : Heap) (locs : List Loc) (ls : Array Slot), mWd D cy ad bs true mN σ s.heap H locs → lv_has ls 6 [(0, .ref (ad 26)), (1, .ref (ad w1)), (2, .int (mI x2)), (3, .int (mI x3)), (4, .int (mI x4)), (5, .int (mI x5))] → k22 x2 x3 x4 x5 σ = some (r, σ') → mGi p l e 6 s m args below meth c D cy ad bs r σ' H locs (F0 m 22 ls [])) {x2 x3 x5 t0 : Int} {σ : mMem} {H : Heap} {locs : List Loc} {ls : Array Slot} (hw : mWd D cy ad bs true mN σ s.heap H locs) (hl : lv_has ls 6 [(0, .ref (ad 26)), (1, .ref (ad w1)), (2, .int (mI x2)), (3, .int (mI x3)), (5, .int (mI x5))]) (hf : g_X0_leastDelay_b58 F w1 k2 k22 x2 x3 x5 t0 σ = some (r, σ')) : mGi p l e 6 s m args below meth c D cy ad bs r σ' H locs (F0 m 58 ls [.int (mI t0)]) := by
  obtain ⟨⟨hx, hb, -, -, -⟩, -⟩ := id X
  unfold g_X0_leastDelay_b58 at hf
  refine lv_istore (lv' := [(4, .int (mI t0)), (0, .ref (ad 26)), (1, .ref (ad w1)), (2, .int (mI x2)), (3, .int (mI x3)), (5, .int (mI x5))]) hx hb dX0_leastDelay_58 hl (by decide) rfl (fun ls hl => ?_)
  refine lv_iinc (v := mI (x5 + 1)) (lv' := [(5, .int (mI (x5 + 1))), (4, .int (mI t0)), (0, .ref (ad 26)), (1, .ref (ad w1)), (2, .int (mI x2)), (3, .int (mI x3))]) hx hb dX0_leastDelay_60 hl (k := 5) rfl (mI_add _ _) (by decide) rfl (fun ls hl => ?_)
  refine lv_goto (tgt := 22) hx hb dX0_leastDelay_63 (by decide) ?_
  exact hk22 x2 x3 t0 (x5 + 1) σ _ _ _ hw (lv_sub hl [2, 3, 4, 5, 1, 0] rfl) hf
def g_X0_leastDelay_h22 (F : Nat) (w1 : Nat) (k2 : Int → Int → mMem → mRs) : Nat → Int → Int → Int → Int → mMem → mRs
  | 0, _, _, _, _, _ => none
  | n + 1, x2, x3, x4, x5, σ => if mw x2 ≤ mw x5 then (g_X0_leastDelay_b66 F w1 k2 x2 x3 x4 σ) else (if mw x4 = 0 then (g_X0_leastDelay_b66 F w1 k2 x2 x3 x4 σ) else (mob (g_X10_pass F 29 x5 x3 σ) (fun r203 σ204 => if ¬ mw (σ204 29 7) = 0 then (g_X0_leastDelay_b58 F w1 k2 (g_X0_leastDelay_h22 F w1 k2 n) x2 x3 x5 0 σ204) else (g_X0_leastDelay_b58 F w1 k2 (g_X0_leastDelay_h22 F w1 k2 n) x2 x3 x5 1 σ204))))
set_option maxRecDepth 100000 in
set_option maxHeartbeats 4000000 in
theorem w_X0_leastDelay_h22 {p : Program} {l : Launch} {e : Env} {s : State} {m : MethodId} {args : Array Value} {below : List Frame} {meth : Method} {c : Code} {D : va_G} {cy : Nat → ClassId} {ad : Nat → Nat} {bs : Nat} {F : Nat} {w1 : Nat} (X : mCx p m c cX0_leastDelay 6 s args RX0 meth D cy (some .int)) (hw1 : mWorld w1) {r : Int} {σ' : mMem} {k2 : Int → Int → mMem → mRs} (hk2 : ∀ (x2 x3 : Int) (σ : mMem) (H : Heap) (locs : List Loc) (ls : Array Slot), mWd D cy ad bs true mN σ s.heap H locs → lv_has ls 6 [(0, .ref (ad 26)), (1, .ref (ad w1)), (2, .int (mI x2)), (3, .int (mI x3))] → k2 x2 x3 σ = some (r, σ') → mGi p l e 6 s m args below meth c D cy ad bs r σ' H locs (F0 m 2 ls [])) (n : Nat) : ∀ {x2 x3 x4 x5 : Int} {σ : mMem} {H : Heap} {locs : List Loc} {ls : Array Slot} (_ : mWd D cy ad bs true mN σ s.heap H locs) (_ : lv_has ls 6 [(0, .ref (ad 26)), (1, .ref (ad w1)), (2, .int (mI x2)), (3, .int (mI x3)), (4, .int (mI x4)), (5, .int (mI x5))]) (_ : g_X0_leastDelay_h22 F w1 k2 n x2 x3 x4 x5 σ = some (r, σ')), mGi p l e 6 s m args below meth c D cy ad bs r σ' H locs (F0 m 22 ls []) := by
  obtain ⟨⟨hx, hb, -, -, -⟩, -⟩ := id X
  induction n with
  | zero =>
    intro x2 x3 x4 x5 σ H locs ls hw hl hf
    unfold g_X0_leastDelay_h22 at hf
    cases hf
  | succ n ih =>
    have hk22 : ∀ (x2 x3 x4 x5 : Int) (σ : mMem) (H : Heap) (locs : List Loc) (ls : Array Slot), mWd D cy ad bs true mN σ s.heap H locs → lv_has ls 6 [(0, .ref (ad 26)), (1, .ref (ad w1)), (2, .int (mI x2)), (3, .int (mI x3)), (4, .int (mI x4)), (5, .int (mI x5))] → g_X0_leastDelay_h22 F w1 k2 n x2 x3 x4 x5 σ = some (r, σ') → mGi p l e 6 s m args below meth c D cy ad bs r σ' H locs (F0 m 22 ls []) := fun x2 x3 x4 x5 σ H locs ls hw hl hf => ih hw hl hf
    intro x2 x3 x4 x5 σ H locs ls hw hl hf
    unfold g_X0_leastDelay_h22 at hf
    refine lv_iload hx hb dX0_leastDelay_22 (lv_at hl 5 rfl) ?_
    refine lv_iload_n hx hb dX0_leastDelay_24 rfl (lv_at hl 2 rfl) ?_
    refine r_icmp_ge (tgt := 66) X dX0_leastDelay_25 (by decide) hf (fun hc hf => ?_) (fun hc hf => ?_)
    · exact w_X0_leastDelay_b66 X hw1 hk2 hw (lv_sub hl [0, 1, 2, 3, 4] rfl) hf
    · refine lv_iload hx hb dX0_leastDelay_28 (lv_at hl 4 rfl) ?_
      refine r_if_eq (tgt := 66) X dX0_leastDelay_30 (by decide) hf (fun hc hf => ?_) (fun hc hf => ?_)
      · exact w_X0_leastDelay_b66 X hw1 hk2 hw (lv_sub hl [0, 1, 2, 3, 4] rfl) hf
      · refine lv_aload_n hx hb dX0_leastDelay_33 rfl (lv_at hl 0 rfl) ?_
        refine r_getr 29 X hw sh_26 fd_0_0 rfl rfl lf_X0_25 dX0_leastDelay_34 ?_
        refine lv_iload hx hb dX0_leastDelay_37 (lv_at hl 5 rfl) ?_
        refine lv_iload_n hx hb dX0_leastDelay_39 rfl (lv_at hl 3 rfl) ?_
        refine r_cvv (rest := []) [.int (mI x5), .int (mI x3)] X hw (fun ra σa h => c_X10_pass l D cy ad bs F 29 x5 x3 σ ra σa sh_w29 h) sh_29 rfl (by decide) rfl km_X10_pass kv_X10_pass lm_X0_41 dX0_leastDelay_40 hl.1 rfl rfl (Nat.le_of_ble_eq_true rfl) ⟨by decide, by decide⟩ ⟨Nat.zero_le _, Nat.zero_le _⟩ hf (fun r203 σ204 _ hf H locs hw => ?_)
        refine lv_aload_n hx hb dX0_leastDelay_43 rfl (lv_at hl 0 rfl) ?_
        refine r_getr 29 X hw sh_26 fd_0_0 rfl rfl lf_X0_25 dX0_leastDelay_44 ?_
        refine r_geti X hw sh_29 fd_10_7 rfl lf_X0_57 dX0_leastDelay_47 ?_
        refine r_if_ne (tgt := 57) X dX0_leastDelay_50 (by decide) hf (fun hc hf => ?_) (fun hc hf => ?_)
        · refine lv_iconst (v := mI 0) hx hb dX0_leastDelay_57 rfl ?_
          exact w_X0_leastDelay_b58 X hw1 hk2 hk22 hw (lv_sub hl [0, 1, 2, 3, 5] rfl) hf
        · refine lv_iconst (v := mI 1) hx hb dX0_leastDelay_53 rfl ?_
          refine lv_goto (tgt := 58) hx hb dX0_leastDelay_54 (by decide) ?_
          exact w_X0_leastDelay_b58 X hw1 hk2 hk22 hw (lv_sub hl [0, 1, 2, 3, 5] rfl) hf
def g_X0_leastDelay_h2 (F : Nat) (w1 : Nat)  : Nat → Int → Int → mMem → mRs
  | 0, _, _, _ => none
  | n + 1, x2, x3, σ => if mw 9 < mw x3 then (some ((-1), σ)) else (mob (g_X10_copyFrom F 29 w1 σ) (fun r101 σ102 => g_X0_leastDelay_h22 F w1 (g_X0_leastDelay_h2 F w1 n) F x2 x3 1 0 σ102))
set_option maxRecDepth 100000 in
set_option maxHeartbeats 4000000 in
theorem w_X0_leastDelay_h2 {p : Program} {l : Launch} {e : Env} {s : State} {m : MethodId} {args : Array Value} {below : List Frame} {meth : Method} {c : Code} {D : va_G} {cy : Nat → ClassId} {ad : Nat → Nat} {bs : Nat} {F : Nat} {w1 : Nat} (X : mCx p m c cX0_leastDelay 6 s args RX0 meth D cy (some .int)) (hw1 : mWorld w1) {r : Int} {σ' : mMem}   (n : Nat) : ∀ {x2 x3 : Int} {σ : mMem} {H : Heap} {locs : List Loc} {ls : Array Slot} (_ : mWd D cy ad bs true mN σ s.heap H locs) (_ : lv_has ls 6 [(0, .ref (ad 26)), (1, .ref (ad w1)), (2, .int (mI x2)), (3, .int (mI x3))]) (_ : g_X0_leastDelay_h2 F w1 n x2 x3 σ = some (r, σ')), mGi p l e 6 s m args below meth c D cy ad bs r σ' H locs (F0 m 2 ls []) := by
  obtain ⟨⟨hx, hb, -, -, -⟩, -⟩ := id X
  induction n with
  | zero =>
    intro x2 x3 σ H locs ls hw hl hf
    unfold g_X0_leastDelay_h2 at hf
    cases hf
  | succ n ih =>
    have hk2 : ∀ (x2 x3 : Int) (σ : mMem) (H : Heap) (locs : List Loc) (ls : Array Slot), mWd D cy ad bs true mN σ s.heap H locs → lv_has ls 6 [(0, .ref (ad 26)), (1, .ref (ad w1)), (2, .int (mI x2)), (3, .int (mI x3))] → g_X0_leastDelay_h2 F w1 n x2 x3 σ = some (r, σ') → mGi p l e 6 s m args below meth c D cy ad bs r σ' H locs (F0 m 2 ls []) := fun x2 x3 σ H locs ls hw hl hf => ih hw hl hf
    intro x2 x3 σ H locs ls hw hl hf
    unfold g_X0_leastDelay_h2 at hf
    refine lv_iload_n hx hb dX0_leastDelay_2 rfl (lv_at hl 3 rfl) ?_
    refine lv_bipush (v := mI 9) hx hb dX0_leastDelay_3 (by decide) ?_
    refine r_icmp_gt (tgt := 79) X dX0_leastDelay_5 (by decide) hf (fun hc hf => ?_) (fun hc hf => ?_)
    · refine lv_iconst (v := mI (-1)) hx hb dX0_leastDelay_79 rfl ?_
      exact r_iret X hw dX0_leastDelay_80 hf
    · refine lv_aload_n hx hb dX0_leastDelay_8 rfl (lv_at hl 0 rfl) ?_
      refine r_getr 29 X hw sh_26 fd_0_0 rfl rfl lf_X0_25 dX0_leastDelay_9 ?_
      refine lv_aload_n hx hb dX0_leastDelay_12 rfl (lv_at hl 1 rfl) ?_
      refine r_cvv (rest := []) [.ref (ad w1)] X hw (fun ra σa h => c_X10_copyFrom l D cy ad bs F 29 w1 σ ra σa sh_w29 hw1 h) sh_29 rfl (by decide) rfl km_X10_copyFrom kv_X10_copyFrom lm_X0_33 dX0_leastDelay_13 hl.1 rfl rfl (Nat.le_of_ble_eq_true rfl) ⟨by decide, by decide⟩ ⟨Nat.zero_le _, Nat.zero_le _⟩ hf (fun r101 σ102 _ hf H locs hw => ?_)
      refine lv_iconst (v := mI 1) hx hb dX0_leastDelay_16 rfl ?_
      refine lv_istore (lv' := [(4, .int (mI 1)), (0, .ref (ad 26)), (1, .ref (ad w1)), (2, .int (mI x2)), (3, .int (mI x3))]) hx hb dX0_leastDelay_17 hl (by decide) rfl (fun ls hl => ?_)
      refine lv_iconst (v := mI 0) hx hb dX0_leastDelay_19 rfl ?_
      refine lv_istore (lv' := [(5, .int (mI 0)), (4, .int (mI 1)), (0, .ref (ad 26)), (1, .ref (ad w1)), (2, .int (mI x2)), (3, .int (mI x3))]) hx hb dX0_leastDelay_20 hl (by decide) rfl (fun ls hl => ?_)
      exact w_X0_leastDelay_h22 X hw1 hk2 _ hw (lv_sub hl [2, 3, 4, 5, 1, 0] rfl) hf
def g_X0_leastDelay (F : Nat) (w1 : Nat) (x2 : Int) (σ : mMem) : mRs := g_X0_leastDelay_h2 F w1 F x2 0 σ
set_option maxRecDepth 100000 in
set_option maxHeartbeats 4000000 in
theorem c_X0_leastDelay (l : Launch) (D : va_G) (cy : Nat → ClassId) (ad : Nat → Nat) (bs : Nat) (F : Nat) (w1 : Nat) (x2 : Int) (σ : mMem) (r : Int) (σ' : mMem) (hw1 : mWorld w1) (hf : g_X0_leastDelay F w1 x2 σ = some (r, σ')) : mCi l D cy ad bs yX0_leastDelay cX0_leastDelay 6 (some .int) 6 [.ref (ad 26), .ref (ad w1), .int (mI x2)] σ r σ' := by
  refine mCi.of (lv := [(0, .ref (ad 26)), (1, .ref (ad w1)), (2, .int (mI x2))]) km_X0_leastDelay.2.2.2.2.2 (Nat.le_of_ble_eq_true rfl) rfl (fun p e s m args below meth c H locs ls X hw hl => ?_)
  obtain ⟨⟨hx, hb, -, -, -⟩, -⟩ := id X
  unfold g_X0_leastDelay at hf
  refine lv_iconst (v := mI 0) hx hb dX0_leastDelay_0 rfl ?_
  refine lv_istore_n (lv' := [(3, .int (mI 0)), (0, .ref (ad 26)), (1, .ref (ad w1)), (2, .int (mI x2))]) hx hb dX0_leastDelay_1 rfl hl (by decide) rfl (fun ls hl => ?_)
  exact w_X0_leastDelay_h2 X hw1 _ hw (lv_sub hl [1, 2, 3, 0] rfl) hf
def g_X10_lostBoxes_b30 (F : Nat) (o : Nat) (k4 : Int → Int → mMem → mRs) (x2 t0 t1 : Int) (σ : mMem) : mRs := mlet (t0 + t1) (fun y204 => k4 y204 (x2 + 1) σ)
set_option maxRecDepth 100000 in
set_option maxHeartbeats 4000000 in
theorem w_X10_lostBoxes_b30 {p : Program} {l : Launch} {e : Env} {s : State} {m : MethodId} {args : Array Value} {below : List Frame} {meth : Method} {c : Code} {D : va_G} {cy : Nat → ClassId} {ad : Nat → Nat} {bs : Nat} {F : Nat} {o : Nat} (X : mCx p m c cX10_lostBoxes 3 s args RX10 meth D cy (some .int)) (ho : mWorld o) {r : Int} {σ' : mMem} {k4 : Int → Int → mMem → mRs} (hk4 : ∀ (x1 x2 : Int) (σ : mMem) (H : Heap) (locs : List Loc) (ls : Array Slot), mWd D cy ad bs true mN σ s.heap H locs → lv_has ls 3 [(0, .ref (ad o)), (1, .int (mI x1)), (2, .int (mI x2))] → k4 x1 x2 σ = some (r, σ') → mGi p l e 2 s m args below meth c D cy ad bs r σ' H locs (F0 m 4 ls [])) {x2 t0 t1 : Int} {σ : mMem} {H : Heap} {locs : List Loc} {ls : Array Slot} (hw : mWd D cy ad bs true mN σ s.heap H locs) (hl : lv_has ls 3 [(0, .ref (ad o)), (2, .int (mI x2))]) (hf : g_X10_lostBoxes_b30 F o k4 x2 t0 t1 σ = some (r, σ')) : mGi p l e 2 s m args below meth c D cy ad bs r σ' H locs (F0 m 30 ls [.int (mI t1), .int (mI t0)]) := by
  obtain ⟨⟨hx, hb, -, -, -⟩, -⟩ := id X
  unfold g_X10_lostBoxes_b30 at hf
  refine r_iadd X dX10_lostBoxes_30 ?_
  refine r_leti hf (fun y204 hf => ?_)
  refine lv_istore_n (lv' := [(1, .int (mI y204)), (0, .ref (ad o)), (2, .int (mI x2))]) hx hb dX10_lostBoxes_31 rfl hl (by decide) rfl (fun ls hl => ?_)
  refine lv_iinc (v := mI (x2 + 1)) (lv' := [(2, .int (mI (x2 + 1))), (1, .int (mI y204)), (0, .ref (ad o))]) hx hb dX10_lostBoxes_32 hl (k := 2) rfl (mI_add _ _) (by decide) rfl (fun ls hl => ?_)
  refine lv_goto (tgt := 4) hx hb dX10_lostBoxes_35 (by decide) ?_
  exact hk4 y204 (x2 + 1) σ _ _ _ hw (lv_sub hl [2, 1, 0] rfl) hf
def g_X10_lostBoxes_h4 (F : Nat) (o : Nat)  : Nat → Int → Int → mMem → mRs
  | 0, _, _, _ => none
  | n + 1, x1, x2, σ => if σ o 3 = 3 ∨ σ o 3 = 8 then if mw (σ (σ o 3).toNat 11) ≤ mw x2 then (some (x1, σ)) else (mob (g_X10_of F o x2 4 σ) (fun r102 σ103 => if mw r102 ≤ 0 then (g_X10_lostBoxes_b30 F o (g_X10_lostBoxes_h4 F o n) x2 x1 0 σ103) else (g_X10_lostBoxes_b30 F o (g_X10_lostBoxes_h4 F o n) x2 x1 1 σ103))) else none
set_option maxRecDepth 100000 in
set_option maxHeartbeats 4000000 in
theorem w_X10_lostBoxes_h4 {p : Program} {l : Launch} {e : Env} {s : State} {m : MethodId} {args : Array Value} {below : List Frame} {meth : Method} {c : Code} {D : va_G} {cy : Nat → ClassId} {ad : Nat → Nat} {bs : Nat} {F : Nat} {o : Nat} (X : mCx p m c cX10_lostBoxes 3 s args RX10 meth D cy (some .int)) (ho : mWorld o) {r : Int} {σ' : mMem}   (n : Nat) : ∀ {x1 x2 : Int} {σ : mMem} {H : Heap} {locs : List Loc} {ls : Array Slot} (_ : mWd D cy ad bs true mN σ s.heap H locs) (_ : lv_has ls 3 [(0, .ref (ad o)), (1, .int (mI x1)), (2, .int (mI x2))]) (_ : g_X10_lostBoxes_h4 F o n x1 x2 σ = some (r, σ')), mGi p l e 2 s m args below meth c D cy ad bs r σ' H locs (F0 m 4 ls []) := by
  obtain ⟨⟨hx, hb, -, -, -⟩, -⟩ := id X
  induction n with
  | zero =>
    intro x1 x2 σ H locs ls hw hl hf
    unfold g_X10_lostBoxes_h4 at hf
    cases hf
  | succ n ih =>
    have hk4 : ∀ (x1 x2 : Int) (σ : mMem) (H : Heap) (locs : List Loc) (ls : Array Slot), mWd D cy ad bs true mN σ s.heap H locs → lv_has ls 3 [(0, .ref (ad o)), (1, .int (mI x1)), (2, .int (mI x2))] → g_X10_lostBoxes_h4 F o n x1 x2 σ = some (r, σ') → mGi p l e 2 s m args below meth c D cy ad bs r σ' H locs (F0 m 4 ls []) := fun x1 x2 σ H locs ls hw hl hf => ih hw hl hf
    intro x1 x2 σ H locs ls hw hl hf
    unfold g_X10_lostBoxes_h4 at hf
    refine lv_iload_n hx hb dX10_lostBoxes_4 rfl (lv_at hl 2 rfl) ?_
    refine lv_aload_n hx hb dX10_lostBoxes_5 rfl (lv_at hl 0 rfl) ?_
    refine r_getp X hw ho.1 fd_10_3 rfl lf_X10_28 dX10_lostBoxes_6 hf (fun hg101 hf => ?_)
    refine r_geti X hw (mPlan_z hg101).1 fd_5_11 rfl lf_X10_55 dX10_lostBoxes_9 ?_
    refine r_icmp_ge (tgt := 38) X dX10_lostBoxes_12 (by decide) hf (fun hc hf => ?_) (fun hc hf => ?_)
    · refine lv_iload_n hx hb dX10_lostBoxes_38 rfl (lv_at hl 1 rfl) ?_
      exact r_iret X hw dX10_lostBoxes_39 hf
    · refine lv_iload_n hx hb dX10_lostBoxes_15 rfl (lv_at hl 1 rfl) ?_
      refine lv_aload_n hx hb dX10_lostBoxes_16 rfl (lv_at hl 0 rfl) ?_
      refine lv_iload_n hx hb dX10_lostBoxes_17 rfl (lv_at hl 2 rfl) ?_
      refine lv_iconst (v := mI 4) hx hb dX10_lostBoxes_18 rfl ?_
      refine r_cvi (rest := [.int (mI x1)]) [.int (mI x2), .int (mI 4)] X hw (fun ra σa h => c_X10_of l D cy ad bs F o x2 4 σ ra σa ho h) ho.1 rfl (by decide) rfl km_X10_of kv_X10_of lm_X10_65 dX10_lostBoxes_19 hl.1 rfl rfl (Nat.le_of_ble_eq_true rfl) ⟨by decide, by decide⟩ ⟨Nat.zero_le _, Nat.zero_le _⟩ hf (fun r102 σ103 _ hf H locs hw => ?_)
      refine r_if_le (tgt := 29) X dX10_lostBoxes_22 (by decide) hf (fun hc hf => ?_) (fun hc hf => ?_)
      · refine lv_iconst (v := mI 0) hx hb dX10_lostBoxes_29 rfl ?_
        exact w_X10_lostBoxes_b30 X ho hk4 hw (lv_sub hl [0, 2] rfl) hf
      · refine lv_iconst (v := mI 1) hx hb dX10_lostBoxes_25 rfl ?_
        refine lv_goto (tgt := 30) hx hb dX10_lostBoxes_26 (by decide) ?_
        exact w_X10_lostBoxes_b30 X ho hk4 hw (lv_sub hl [0, 2] rfl) hf
def g_X10_lostBoxes (F : Nat) (o : Nat) (σ : mMem) : mRs := g_X10_lostBoxes_h4 F o F 0 0 σ
set_option maxRecDepth 100000 in
set_option maxHeartbeats 4000000 in
theorem c_X10_lostBoxes (l : Launch) (D : va_G) (cy : Nat → ClassId) (ad : Nat → Nat) (bs : Nat) (F : Nat) (o : Nat)  (σ : mMem) (r : Int) (σ' : mMem) (ho : mWorld o) (hf : g_X10_lostBoxes F o σ = some (r, σ')) : mCi l D cy ad bs yX10_lostBoxes cX10_lostBoxes 3 (some .int) 2 [.ref (ad o)] σ r σ' := by
  refine mCi.of (lv := [(0, .ref (ad o))]) km_X10_lostBoxes.2.2.2.2.2 (Nat.le_of_ble_eq_true rfl) rfl (fun p e s m args below meth c H locs ls X hw hl => ?_)
  obtain ⟨⟨hx, hb, -, -, -⟩, -⟩ := id X
  unfold g_X10_lostBoxes at hf
  refine lv_iconst (v := mI 0) hx hb dX10_lostBoxes_0 rfl ?_
  refine lv_istore_n (lv' := [(1, .int (mI 0)), (0, .ref (ad o))]) hx hb dX10_lostBoxes_1 rfl hl (by decide) rfl (fun ls hl => ?_)
  refine lv_iconst (v := mI 0) hx hb dX10_lostBoxes_2 rfl ?_
  refine lv_istore_n (lv' := [(2, .int (mI 0)), (1, .int (mI 0)), (0, .ref (ad o))]) hx hb dX10_lostBoxes_3 rfl hl (by decide) rfl (fun ls hl => ?_)
  exact w_X10_lostBoxes_h4 X ho _ hw (lv_sub hl [2, 1, 0] rfl) hf
def g_X0_brightestLamp_h26 (F : Nat) (w1 : Nat) (k3 : Int → Int → mMem → mRs) : Nat → Int → Int → Int → mMem → mRs
  | 0, _, _, _, _ => none
  | n + 1, x2, x3, x4, σ => if mw x2 ≤ mw x4 then (mob (g_X10_lostBoxes F 29 σ) (fun r204 σ205 => if ¬ mw r204 = 0 then (k3 x2 (x3 + (-1)) σ205) else (some (x3, σ205)))) else (mob (g_X10_pass F 29 0 0 σ) (fun r206 σ207 => (g_X0_brightestLamp_h26 F w1 k3 n) x2 x3 (x4 + 1) σ207))
set_option maxRecDepth 100000 in
set_option maxHeartbeats 4000000 in
theorem w_X0_brightestLamp_h26 {p : Program} {l : Launch} {e : Env} {s : State} {m : MethodId} {args : Array Value} {below : List Frame} {meth : Method} {c : Code} {D : va_G} {cy : Nat → ClassId} {ad : Nat → Nat} {bs : Nat} {F : Nat} {w1 : Nat} (X : mCx p m c cX0_brightestLamp 5 s args RX0 meth D cy (some .int)) (hw1 : mWorld w1) {r : Int} {σ' : mMem} {k3 : Int → Int → mMem → mRs} (hk3 : ∀ (x2 x3 : Int) (σ : mMem) (H : Heap) (locs : List Loc) (ls : Array Slot), mWd D cy ad bs true mN σ s.heap H locs → lv_has ls 5 [(0, .ref (ad 26)), (1, .ref (ad w1)), (2, .int (mI x2)), (3, .int (mI x3))] → k3 x2 x3 σ = some (r, σ') → mGi p l e 6 s m args below meth c D cy ad bs r σ' H locs (F0 m 3 ls [])) (n : Nat) : ∀ {x2 x3 x4 : Int} {σ : mMem} {H : Heap} {locs : List Loc} {ls : Array Slot} (_ : mWd D cy ad bs true mN σ s.heap H locs) (_ : lv_has ls 5 [(0, .ref (ad 26)), (1, .ref (ad w1)), (2, .int (mI x2)), (3, .int (mI x3)), (4, .int (mI x4))]) (_ : g_X0_brightestLamp_h26 F w1 k3 n x2 x3 x4 σ = some (r, σ')), mGi p l e 6 s m args below meth c D cy ad bs r σ' H locs (F0 m 26 ls []) := by
  obtain ⟨⟨hx, hb, -, -, -⟩, -⟩ := id X
  induction n with
  | zero =>
    intro x2 x3 x4 σ H locs ls hw hl hf
    unfold g_X0_brightestLamp_h26 at hf
    cases hf
  | succ n ih =>
    have hk26 : ∀ (x2 x3 x4 : Int) (σ : mMem) (H : Heap) (locs : List Loc) (ls : Array Slot), mWd D cy ad bs true mN σ s.heap H locs → lv_has ls 5 [(0, .ref (ad 26)), (1, .ref (ad w1)), (2, .int (mI x2)), (3, .int (mI x3)), (4, .int (mI x4))] → g_X0_brightestLamp_h26 F w1 k3 n x2 x3 x4 σ = some (r, σ') → mGi p l e 6 s m args below meth c D cy ad bs r σ' H locs (F0 m 26 ls []) := fun x2 x3 x4 σ H locs ls hw hl hf => ih hw hl hf
    intro x2 x3 x4 σ H locs ls hw hl hf
    unfold g_X0_brightestLamp_h26 at hf
    refine lv_iload hx hb dX0_brightestLamp_26 (lv_at hl 4 rfl) ?_
    refine lv_iload_n hx hb dX0_brightestLamp_28 rfl (lv_at hl 2 rfl) ?_
    refine r_icmp_ge (tgt := 47) X dX0_brightestLamp_29 (by decide) hf (fun hc hf => ?_) (fun hc hf => ?_)
    · refine lv_aload_n hx hb dX0_brightestLamp_47 rfl (lv_at hl 0 rfl) ?_
      refine r_getr 29 X hw sh_26 fd_0_0 rfl rfl lf_X0_25 dX0_brightestLamp_48 ?_
      refine r_cvi (rest := []) [] X hw (fun ra σa h => c_X10_lostBoxes l D cy ad bs F 29 σ ra σa sh_w29 h) sh_29 rfl (by decide) rfl km_X10_lostBoxes kv_X10_lostBoxes lm_X0_114 dX0_brightestLamp_51 hl.1 rfl rfl (Nat.le_of_ble_eq_true rfl) ⟨by decide, by decide⟩ ⟨Nat.zero_le _, Nat.zero_le _⟩ hf (fun r204 σ205 _ hf H locs hw => ?_)
      refine r_if_ne (tgt := 59) X dX0_brightestLamp_54 (by decide) hf (fun hc hf => ?_) (fun hc hf => ?_)
      · refine lv_iinc (v := mI (x3 + (-1))) (lv' := [(3, .int (mI (x3 + (-1)))), (0, .ref (ad 26)), (1, .ref (ad w1)), (2, .int (mI x2)), (4, .int (mI x4))]) hx hb dX0_brightestLamp_59 hl (k := 3) rfl (mI_add _ _) (by decide) rfl (fun ls hl => ?_)
        refine lv_goto (tgt := 3) hx hb dX0_brightestLamp_62 (by decide) ?_
        exact hk3 x2 (x3 + (-1)) σ205 _ _ _ hw (lv_sub hl [1, 2, 3, 0] rfl) hf
      · refine lv_iload_n hx hb dX0_brightestLamp_57 rfl (lv_at hl 3 rfl) ?_
        exact r_iret X hw dX0_brightestLamp_58 hf
    · refine lv_aload_n hx hb dX0_brightestLamp_32 rfl (lv_at hl 0 rfl) ?_
      refine r_getr 29 X hw sh_26 fd_0_0 rfl rfl lf_X0_25 dX0_brightestLamp_33 ?_
      refine lv_iconst (v := mI 0) hx hb dX0_brightestLamp_36 rfl ?_
      refine lv_iconst (v := mI 0) hx hb dX0_brightestLamp_37 rfl ?_
      refine r_cvv (rest := []) [.int (mI 0), .int (mI 0)] X hw (fun ra σa h => c_X10_pass l D cy ad bs F 29 0 0 σ ra σa sh_w29 h) sh_29 rfl (by decide) rfl km_X10_pass kv_X10_pass lm_X0_41 dX0_brightestLamp_38 hl.1 rfl rfl (Nat.le_of_ble_eq_true rfl) ⟨by decide, by decide⟩ ⟨Nat.zero_le _, Nat.zero_le _⟩ hf (fun r206 σ207 _ hf H locs hw => ?_)
      refine lv_iinc (v := mI (x4 + 1)) (lv' := [(4, .int (mI (x4 + 1))), (0, .ref (ad 26)), (1, .ref (ad w1)), (2, .int (mI x2)), (3, .int (mI x3))]) hx hb dX0_brightestLamp_41 hl (k := 4) rfl (mI_add _ _) (by decide) rfl (fun ls hl => ?_)
      refine lv_goto (tgt := 26) hx hb dX0_brightestLamp_44 (by decide) ?_
      exact hk26 x2 x3 (x4 + 1) σ207 _ _ _ hw (lv_sub hl [1, 2, 3, 4, 0] rfl) hf
def g_X0_brightestLamp_h3 (F : Nat) (w1 : Nat)  : Nat → Int → Int → mMem → mRs
  | 0, _, _, _ => none
  | n + 1, x2, x3, σ => if mw x3 < 0 then (some ((-1), σ)) else (mob (g_X10_copyFrom F 29 w1 σ) (fun r101 σ102 => mlm (mup σ102 29 5 x3) (fun σ103 => g_X0_brightestLamp_h26 F w1 (g_X0_brightestLamp_h3 F w1 n) F x2 x3 0 σ103)))
set_option maxRecDepth 100000 in
set_option maxHeartbeats 4000000 in
theorem w_X0_brightestLamp_h3 {p : Program} {l : Launch} {e : Env} {s : State} {m : MethodId} {args : Array Value} {below : List Frame} {meth : Method} {c : Code} {D : va_G} {cy : Nat → ClassId} {ad : Nat → Nat} {bs : Nat} {F : Nat} {w1 : Nat} (X : mCx p m c cX0_brightestLamp 5 s args RX0 meth D cy (some .int)) (hw1 : mWorld w1) {r : Int} {σ' : mMem}   (n : Nat) : ∀ {x2 x3 : Int} {σ : mMem} {H : Heap} {locs : List Loc} {ls : Array Slot} (_ : mWd D cy ad bs true mN σ s.heap H locs) (_ : lv_has ls 5 [(0, .ref (ad 26)), (1, .ref (ad w1)), (2, .int (mI x2)), (3, .int (mI x3))]) (_ : g_X0_brightestLamp_h3 F w1 n x2 x3 σ = some (r, σ')), mGi p l e 6 s m args below meth c D cy ad bs r σ' H locs (F0 m 3 ls []) := by
  obtain ⟨⟨hx, hb, -, -, -⟩, -⟩ := id X
  induction n with
  | zero =>
    intro x2 x3 σ H locs ls hw hl hf
    unfold g_X0_brightestLamp_h3 at hf
    cases hf
  | succ n ih =>
    have hk3 : ∀ (x2 x3 : Int) (σ : mMem) (H : Heap) (locs : List Loc) (ls : Array Slot), mWd D cy ad bs true mN σ s.heap H locs → lv_has ls 5 [(0, .ref (ad 26)), (1, .ref (ad w1)), (2, .int (mI x2)), (3, .int (mI x3))] → g_X0_brightestLamp_h3 F w1 n x2 x3 σ = some (r, σ') → mGi p l e 6 s m args below meth c D cy ad bs r σ' H locs (F0 m 3 ls []) := fun x2 x3 σ H locs ls hw hl hf => ih hw hl hf
    intro x2 x3 σ H locs ls hw hl hf
    unfold g_X0_brightestLamp_h3 at hf
    refine lv_iload_n hx hb dX0_brightestLamp_3 rfl (lv_at hl 3 rfl) ?_
    refine r_if_lt (tgt := 65) X dX0_brightestLamp_4 (by decide) hf (fun hc hf => ?_) (fun hc hf => ?_)
    · refine lv_iconst (v := mI (-1)) hx hb dX0_brightestLamp_65 rfl ?_
      exact r_iret X hw dX0_brightestLamp_66 hf
    · refine lv_aload_n hx hb dX0_brightestLamp_7 rfl (lv_at hl 0 rfl) ?_
      refine r_getr 29 X hw sh_26 fd_0_0 rfl rfl lf_X0_25 dX0_brightestLamp_8 ?_
      refine lv_aload_n hx hb dX0_brightestLamp_11 rfl (lv_at hl 1 rfl) ?_
      refine r_cvv (rest := []) [.ref (ad w1)] X hw (fun ra σa h => c_X10_copyFrom l D cy ad bs F 29 w1 σ ra σa sh_w29 hw1 h) sh_29 rfl (by decide) rfl km_X10_copyFrom kv_X10_copyFrom lm_X0_33 dX0_brightestLamp_12 hl.1 rfl rfl (Nat.le_of_ble_eq_true rfl) ⟨by decide, by decide⟩ ⟨Nat.zero_le _, Nat.zero_le _⟩ hf (fun r101 σ102 _ hf H locs hw => ?_)
      refine lv_aload_n hx hb dX0_brightestLamp_15 rfl (lv_at hl 0 rfl) ?_
      refine r_getr 29 X hw sh_26 fd_0_0 rfl rfl lf_X0_25 dX0_brightestLamp_16 ?_
      refine lv_iload_n hx hb dX0_brightestLamp_19 rfl (lv_at hl 3 rfl) ?_
      refine r_puti X hw sh_29 fd_10_5 fp_10_5 rfl rfl lf_X0_111 dX0_brightestLamp_20 (fun H locs hw => ?_)
      refine r_mem hf hw (fun σ103 hw hf => ?_)
      refine lv_iconst (v := mI 0) hx hb dX0_brightestLamp_23 rfl ?_
      refine lv_istore (lv' := [(4, .int (mI 0)), (0, .ref (ad 26)), (1, .ref (ad w1)), (2, .int (mI x2)), (3, .int (mI x3))]) hx hb dX0_brightestLamp_24 hl (by decide) rfl (fun ls hl => ?_)
      exact w_X0_brightestLamp_h26 X hw1 hk3 _ hw (lv_sub hl [1, 2, 3, 4, 0] rfl) hf
def g_X0_brightestLamp (F : Nat) (w1 : Nat) (x2 : Int) (σ : mMem) : mRs := g_X0_brightestLamp_h3 F w1 F x2 9 σ
set_option maxRecDepth 100000 in
set_option maxHeartbeats 4000000 in
theorem c_X0_brightestLamp (l : Launch) (D : va_G) (cy : Nat → ClassId) (ad : Nat → Nat) (bs : Nat) (F : Nat) (w1 : Nat) (x2 : Int) (σ : mMem) (r : Int) (σ' : mMem) (hw1 : mWorld w1) (hf : g_X0_brightestLamp F w1 x2 σ = some (r, σ')) : mCi l D cy ad bs yX0_brightestLamp cX0_brightestLamp 5 (some .int) 6 [.ref (ad 26), .ref (ad w1), .int (mI x2)] σ r σ' := by
  refine mCi.of (lv := [(0, .ref (ad 26)), (1, .ref (ad w1)), (2, .int (mI x2))]) km_X0_brightestLamp.2.2.2.2.2 (Nat.le_of_ble_eq_true rfl) rfl (fun p e s m args below meth c H locs ls X hw hl => ?_)
  obtain ⟨⟨hx, hb, -, -, -⟩, -⟩ := id X
  unfold g_X0_brightestLamp at hf
  refine lv_bipush (v := mI 9) hx hb dX0_brightestLamp_0 (by decide) ?_
  refine lv_istore_n (lv' := [(3, .int (mI 9)), (0, .ref (ad 26)), (1, .ref (ad w1)), (2, .int (mI x2))]) hx hb dX0_brightestLamp_2 rfl hl (by decide) rfl (fun ls hl => ?_)
  exact w_X0_brightestLamp_h3 X hw1 _ hw (lv_sub hl [1, 2, 3, 0] rfl) hf
def g_X5_emit_b44 (F : Nat) (o : Nat)  (σ : mMem) : mRs := some (0, σ)
set_option maxRecDepth 100000 in
set_option maxHeartbeats 4000000 in
theorem w_X5_emit_b44 {p : Program} {l : Launch} {e : Env} {s : State} {m : MethodId} {args : Array Value} {below : List Frame} {meth : Method} {c : Code} {D : va_G} {cy : Nat → ClassId} {ad : Nat → Nat} {bs : Nat} {F : Nat} {o : Nat} (X : mCx p m c cX5_emit 3 s args RX5 meth D cy none) (ho : mPlan o) {r : Int} {σ' : mMem}    {σ : mMem} {H : Heap} {locs : List Loc} {ls : Array Slot} (hw : mWd D cy ad bs true mN σ s.heap H locs) (hl : lv_has ls 3 [(0, .ref (ad o))]) (hf : g_X5_emit_b44 F o  σ = some (r, σ')) : mGv p l e 1 s m args below meth c D cy ad bs σ' H locs (F0 m 44 ls []) := by
  obtain ⟨⟨hx, hb, -, -, -⟩, -⟩ := id X
  unfold g_X5_emit_b44 at hf
  exact r_vret X hw dX5_emit_44 hf
def g_X5_emit (F : Nat) (o : Nat) (x1 x2 : Int) (σ : mMem) : mRs := if mw (σ o 4) < 0 then (g_X5_emit_b44 F o σ) else (if mw 1600 ≤ mw (σ o 4) then (g_X5_emit_b44 F o σ) else (if 0 ≤ mw (σ o 4) ∧ mw (σ o 4) < (1600 : Int) then mlm (mup σ (o + 4) (mw (σ o 4)).toNat ((x2 * 16) + x1)) (fun σ1 => mlm (mup σ1 o 4 ((σ1 o 4) + 1)) (fun σ2 => g_X5_emit_b44 F o σ2)) else none))
set_option maxRecDepth 100000 in
set_option maxHeartbeats 4000000 in
theorem c_X5_emit (l : Launch) (D : va_G) (cy : Nat → ClassId) (ad : Nat → Nat) (bs : Nat) (F : Nat) (o : Nat) (x1 x2 : Int) (σ : mMem) (r : Int) (σ' : mMem) (ho : mPlan o) (hf : g_X5_emit F o x1 x2 σ = some (r, σ')) : mCv l D cy ad bs yX5_emit cX5_emit 3 none 1 [.ref (ad o), .int (mI x1), .int (mI x2)] σ σ' := by
  refine mCv.of (lv := [(0, .ref (ad o)), (1, .int (mI x1)), (2, .int (mI x2))]) km_X5_emit.2.2.2.2.2 (Nat.le_of_ble_eq_true rfl) rfl (fun p e s m args below meth c H locs ls X hw hl => ?_)
  obtain ⟨⟨hx, hb, -, -, -⟩, -⟩ := id X
  unfold g_X5_emit at hf
  refine lv_aload_n hx hb dX5_emit_0 rfl (lv_at hl 0 rfl) ?_
  refine r_geti X hw ho.1 fd_5_4 rfl lf_X5_37 dX5_emit_1 ?_
  refine r_if_lt (tgt := 44) X dX5_emit_4 (by decide) hf (fun hc hf => ?_) (fun hc hf => ?_)
  · exact w_X5_emit_b44 X ho hw (lv_sub hl [0] rfl) hf
  · refine lv_aload_n hx hb dX5_emit_7 rfl (lv_at hl 0 rfl) ?_
    refine r_geti X hw ho.1 fd_5_4 rfl lf_X5_37 dX5_emit_8 ?_
    refine lv_aload_n hx hb dX5_emit_11 rfl (lv_at hl 0 rfl) ?_
    refine r_getr (o + 4) X hw ho.1 fd_5_3 rfl rfl lf_X5_25 dX5_emit_12 ?_
    refine r_ileni (1600 : Int) rfl X hw ho.2.2.2.2 dX5_emit_15 ?_
    refine r_icmp_ge (tgt := 44) X dX5_emit_16 (by decide) hf (fun hc hf => ?_) (fun hc hf => ?_)
    · exact w_X5_emit_b44 X ho hw (lv_sub hl [0] rfl) hf
    · refine lv_aload_n hx hb dX5_emit_19 rfl (lv_at hl 0 rfl) ?_
      refine r_getr (o + 4) X hw ho.1 fd_5_3 rfl rfl lf_X5_25 dX5_emit_20 ?_
      refine lv_aload_n hx hb dX5_emit_23 rfl (lv_at hl 0 rfl) ?_
      refine r_geti X hw ho.1 fd_5_4 rfl lf_X5_37 dX5_emit_24 ?_
      refine lv_iload_n hx hb dX5_emit_27 rfl (lv_at hl 2 rfl) ?_
      refine lv_bipush (v := mI 16) hx hb dX5_emit_28 (by decide) ?_
      refine r_imul X dX5_emit_30 ?_
      refine lv_iload_n hx hb dX5_emit_31 rfl (lv_at hl 1 rfl) ?_
      refine r_iadd X dX5_emit_32 ?_
      refine r_iast (1600 : Int) rfl X hw ho.2.2.2.2 dX5_emit_33 hf (fun hf H locs hw => ?_)
      refine r_mem hf hw (fun σ1 hw hf => ?_)
      refine lv_aload_n hx hb dX5_emit_34 rfl (lv_at hl 0 rfl) ?_
      refine lv_dup hx hb dX5_emit_35 rfl ?_
      refine r_geti X hw ho.1 fd_5_4 rfl lf_X5_37 dX5_emit_36 ?_
      refine lv_iconst (v := mI 1) hx hb dX5_emit_39 rfl ?_
      refine r_iadd X dX5_emit_40 ?_
      refine r_puti X hw ho.1 fd_5_4 fp_5_4 rfl rfl lf_X5_37 dX5_emit_41 (fun H locs hw => ?_)
      refine r_mem hf hw (fun σ2 hw hf => ?_)
      exact w_X5_emit_b44 X ho hw (lv_sub hl [0] rfl) hf
