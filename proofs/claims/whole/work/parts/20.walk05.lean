def g_X5_shiftOf (F : Nat) (x0 : Int) (σ : mMem) : mRs := some (5 * (5 - x0), σ)
set_option maxRecDepth 100000 in
set_option maxHeartbeats 4000000 in
theorem c_X5_shiftOf (l : Launch) (D : va_G) (cy : Nat → ClassId) (ad : Nat → Nat) (bs : Nat) (F : Nat)  (x0 : Int) (σ : mMem) (r : Int) (σ' : mMem)  (hf : g_X5_shiftOf F x0 σ = some (r, σ')) : mCi l D cy ad bs yX5_shiftOf cX5_shiftOf 1 (some .int) 1 [.int (mI x0)] σ r σ' := by
  refine mCi.of (lv := [(0, .int (mI x0))]) km_X5_shiftOf.2.2.2.2.2 (Nat.le_of_ble_eq_true rfl) rfl (fun p e s m args below meth c H locs ls X hw hl => ?_)
  obtain ⟨⟨hx, hb, -, -, -⟩, -⟩ := id X
  unfold g_X5_shiftOf at hf
  refine lv_iconst (v := mI 5) hx hb dX5_shiftOf_0 rfl ?_
  refine lv_iconst (v := mI 5) hx hb dX5_shiftOf_1 rfl ?_
  refine lv_iload_n hx hb dX5_shiftOf_2 rfl (lv_at hl 0 rfl) ?_
  refine r_isub X dX5_shiftOf_3 ?_
  refine r_imul X dX5_shiftOf_4 ?_
  exact r_iret X hw dX5_shiftOf_5 hf
def g_X5_hasBox_b23 (F : Nat) (o : Nat)  (t0 : Int) (σ : mMem) : mRs := if mw t0 = 0 ∨ mw t0 = 1 then some (t0, σ) else none
set_option maxRecDepth 100000 in
set_option maxHeartbeats 4000000 in
theorem w_X5_hasBox_b23 {p : Program} {l : Launch} {e : Env} {s : State} {m : MethodId} {args : Array Value} {below : List Frame} {meth : Method} {c : Code} {D : va_G} {cy : Nat → ClassId} {ad : Nat → Nat} {bs : Nat} {F : Nat} {o : Nat} (X : mCx p m c cX5_hasBox 2 s args RX5 meth D cy (some .boolean)) (ho : mPlan o) {r : Int} {σ' : mMem}   {t0 : Int} {σ : mMem} {H : Heap} {locs : List Loc} {ls : Array Slot} (hw : mWd D cy ad bs true mN σ s.heap H locs) (hl : lv_has ls 2 [(0, .ref (ad o))]) (hf : g_X5_hasBox_b23 F o t0 σ = some (r, σ')) : mGi p l e 1 s m args below meth c D cy ad bs r σ' H locs (F0 m 23 ls [.int (mI t0)]) := by
  obtain ⟨⟨hx, hb, -, -, -⟩, -⟩ := id X
  unfold g_X5_hasBox_b23 at hf
  exact r_zret X hw dX5_hasBox_23 hf
def g_X5_hasBox_b22 (F : Nat) (o : Nat)  (σ : mMem) : mRs := g_X5_hasBox_b23 F o 0 σ
set_option maxRecDepth 100000 in
set_option maxHeartbeats 4000000 in
theorem w_X5_hasBox_b22 {p : Program} {l : Launch} {e : Env} {s : State} {m : MethodId} {args : Array Value} {below : List Frame} {meth : Method} {c : Code} {D : va_G} {cy : Nat → ClassId} {ad : Nat → Nat} {bs : Nat} {F : Nat} {o : Nat} (X : mCx p m c cX5_hasBox 2 s args RX5 meth D cy (some .boolean)) (ho : mPlan o) {r : Int} {σ' : mMem}    {σ : mMem} {H : Heap} {locs : List Loc} {ls : Array Slot} (hw : mWd D cy ad bs true mN σ s.heap H locs) (hl : lv_has ls 2 [(0, .ref (ad o))]) (hf : g_X5_hasBox_b22 F o  σ = some (r, σ')) : mGi p l e 1 s m args below meth c D cy ad bs r σ' H locs (F0 m 22 ls []) := by
  obtain ⟨⟨hx, hb, -, -, -⟩, -⟩ := id X
  unfold g_X5_hasBox_b22 at hf
  refine lv_iconst (v := mI 0) hx hb dX5_hasBox_22 rfl ?_
  exact w_X5_hasBox_b23 X ho hw (lv_sub hl [0] rfl) hf
def g_X5_hasBox (F : Nat) (o : Nat) (x1 : Int) (σ : mMem) : mRs := if mw x1 < 0 then (g_X5_hasBox_b22 F o σ) else (if mw (σ o 11) ≤ mw x1 then (g_X5_hasBox_b22 F o σ) else (if mw 6 ≤ mw x1 then (g_X5_hasBox_b22 F o σ) else (g_X5_hasBox_b23 F o 1 σ)))
set_option maxRecDepth 100000 in
set_option maxHeartbeats 4000000 in
theorem c_X5_hasBox (l : Launch) (D : va_G) (cy : Nat → ClassId) (ad : Nat → Nat) (bs : Nat) (F : Nat) (o : Nat) (x1 : Int) (σ : mMem) (r : Int) (σ' : mMem) (ho : mPlan o) (hf : g_X5_hasBox F o x1 σ = some (r, σ')) : mCi l D cy ad bs yX5_hasBox cX5_hasBox 2 (some .boolean) 1 [.ref (ad o), .int (mI x1)] σ r σ' := by
  refine mCi.of (lv := [(0, .ref (ad o)), (1, .int (mI x1))]) km_X5_hasBox.2.2.2.2.2 (Nat.le_of_ble_eq_true rfl) rfl (fun p e s m args below meth c H locs ls X hw hl => ?_)
  obtain ⟨⟨hx, hb, -, -, -⟩, -⟩ := id X
  unfold g_X5_hasBox at hf
  refine lv_iload_n hx hb dX5_hasBox_0 rfl (lv_at hl 1 rfl) ?_
  refine r_if_lt (tgt := 22) X dX5_hasBox_1 (by decide) hf (fun hc hf => ?_) (fun hc hf => ?_)
  · exact w_X5_hasBox_b22 X ho hw (lv_sub hl [0] rfl) hf
  · refine lv_iload_n hx hb dX5_hasBox_4 rfl (lv_at hl 1 rfl) ?_
    refine lv_aload_n hx hb dX5_hasBox_5 rfl (lv_at hl 0 rfl) ?_
    refine r_geti X hw ho.1 fd_5_11 rfl lf_X5_59 dX5_hasBox_6 ?_
    refine r_icmp_ge (tgt := 22) X dX5_hasBox_9 (by decide) hf (fun hc hf => ?_) (fun hc hf => ?_)
    · exact w_X5_hasBox_b22 X ho hw (lv_sub hl [0] rfl) hf
    · refine lv_iload_n hx hb dX5_hasBox_12 rfl (lv_at hl 1 rfl) ?_
      refine lv_bipush (v := mI 6) hx hb dX5_hasBox_13 (by decide) ?_
      refine r_icmp_ge (tgt := 22) X dX5_hasBox_15 (by decide) hf (fun hc hf => ?_) (fun hc hf => ?_)
      · exact w_X5_hasBox_b22 X ho hw (lv_sub hl [0] rfl) hf
      · refine lv_iconst (v := mI 1) hx hb dX5_hasBox_18 rfl ?_
        refine lv_goto (tgt := 23) hx hb dX5_hasBox_19 (by decide) ?_
        exact w_X5_hasBox_b23 X ho hw (lv_sub hl [0] rfl) hf
def g_X5_setGrey_b35 (F : Nat) (o : Nat)  (σ : mMem) : mRs := some (0, σ)
set_option maxRecDepth 100000 in
set_option maxHeartbeats 4000000 in
theorem w_X5_setGrey_b35 {p : Program} {l : Launch} {e : Env} {s : State} {m : MethodId} {args : Array Value} {below : List Frame} {meth : Method} {c : Code} {D : va_G} {cy : Nat → ClassId} {ad : Nat → Nat} {bs : Nat} {F : Nat} {o : Nat} (X : mCx p m c cX5_setGrey 5 s args RX5 meth D cy none) (ho : mPlan o) {r : Int} {σ' : mMem}    {σ : mMem} {H : Heap} {locs : List Loc} {ls : Array Slot} (hw : mWd D cy ad bs true mN σ s.heap H locs) (hl : lv_has ls 5 [(0, .ref (ad o))]) (hf : g_X5_setGrey_b35 F o  σ = some (r, σ')) : mGv p l e 2 s m args below meth c D cy ad bs σ' H locs (F0 m 35 ls []) := by
  obtain ⟨⟨hx, hb, -, -, -⟩, -⟩ := id X
  unfold g_X5_setGrey_b35 at hf
  exact r_vret X hw dX5_setGrey_35 hf
def g_X5_setGrey (F : Nat) (o : Nat) (x1 x2 x3 : Int) (σ : mMem) : mRs := mlet ((x2 * 9) + x1) (fun y1 => mob (g_X5_hasCell F o x1 x2 σ) (fun r2 σ3 => if mw r2 = 0 then (g_X5_setGrey_b35 F o σ3) else (if mw 81 ≤ mw y1 then (g_X5_setGrey_b35 F o σ3) else (if 0 ≤ mw y1 ∧ mw y1 < (81 : Int) then mlm (mup σ3 (o + 1) (mw y1).toNat x3) (fun σ4 => g_X5_setGrey_b35 F o σ4) else none))))
set_option maxRecDepth 100000 in
set_option maxHeartbeats 4000000 in
theorem c_X5_setGrey (l : Launch) (D : va_G) (cy : Nat → ClassId) (ad : Nat → Nat) (bs : Nat) (F : Nat) (o : Nat) (x1 x2 x3 : Int) (σ : mMem) (r : Int) (σ' : mMem) (ho : mPlan o) (hf : g_X5_setGrey F o x1 x2 x3 σ = some (r, σ')) : mCv l D cy ad bs yX5_setGrey cX5_setGrey 5 none 2 [.ref (ad o), .int (mI x1), .int (mI x2), .int (mI x3)] σ σ' := by
  refine mCv.of (lv := [(0, .ref (ad o)), (1, .int (mI x1)), (2, .int (mI x2)), (3, .int (mI x3))]) km_X5_setGrey.2.2.2.2.2 (Nat.le_of_ble_eq_true rfl) rfl (fun p e s m args below meth c H locs ls X hw hl => ?_)
  obtain ⟨⟨hx, hb, -, -, -⟩, -⟩ := id X
  unfold g_X5_setGrey at hf
  refine lv_iload_n hx hb dX5_setGrey_0 rfl (lv_at hl 2 rfl) ?_
  refine lv_bipush (v := mI 9) hx hb dX5_setGrey_1 (by decide) ?_
  refine r_imul X dX5_setGrey_3 ?_
  refine lv_iload_n hx hb dX5_setGrey_4 rfl (lv_at hl 1 rfl) ?_
  refine r_iadd X dX5_setGrey_5 ?_
  refine r_leti hf (fun y1 hf => ?_)
  refine lv_istore (lv' := [(4, .int (mI y1)), (0, .ref (ad o)), (1, .int (mI x1)), (2, .int (mI x2)), (3, .int (mI x3))]) hx hb dX5_setGrey_6 hl (by decide) rfl (fun ls hl => ?_)
  refine lv_aload_n hx hb dX5_setGrey_8 rfl (lv_at hl 1 rfl) ?_
  refine lv_iload_n hx hb dX5_setGrey_9 rfl (lv_at hl 2 rfl) ?_
  refine lv_iload_n hx hb dX5_setGrey_10 rfl (lv_at hl 3 rfl) ?_
  refine r_cvi (rest := []) [.int (mI x1), .int (mI x2)] X hw (fun ra σa h => c_X5_hasCell l D cy ad bs F o x1 x2 σ ra σa ho h) ho.1 rfl (by decide) rfl km_X5_hasCell kv_X5_hasCell lm_X5_71 dX5_setGrey_11 hl.1 rfl rfl (Nat.le_of_ble_eq_true rfl) ⟨by decide, by decide⟩ ⟨Nat.zero_le _, Nat.zero_le _⟩ hf (fun r2 σ3 _ hf H locs hw => ?_)
  refine r_if_eq (tgt := 35) X dX5_setGrey_14 (by decide) hf (fun hc hf => ?_) (fun hc hf => ?_)
  · exact w_X5_setGrey_b35 X ho hw (lv_sub hl [1] rfl) hf
  · refine lv_iload hx hb dX5_setGrey_17 (lv_at hl 0 rfl) ?_
    refine lv_aload_n hx hb dX5_setGrey_19 rfl (lv_at hl 1 rfl) ?_
    refine r_getr (o + 1) X hw ho.1 fd_5_0 rfl rfl lf_X5_11 dX5_setGrey_20 ?_
    refine r_ileni (81 : Int) rfl X hw ho.2.1 dX5_setGrey_23 ?_
    refine r_icmp_ge (tgt := 35) X dX5_setGrey_24 (by decide) hf (fun hc hf => ?_) (fun hc hf => ?_)
    · exact w_X5_setGrey_b35 X ho hw (lv_sub hl [1] rfl) hf
    · refine lv_aload_n hx hb dX5_setGrey_27 rfl (lv_at hl 1 rfl) ?_
      refine r_getr (o + 1) X hw ho.1 fd_5_0 rfl rfl lf_X5_11 dX5_setGrey_28 ?_
      refine lv_iload hx hb dX5_setGrey_31 (lv_at hl 0 rfl) ?_
      refine lv_iload_n hx hb dX5_setGrey_33 rfl (lv_at hl 4 rfl) ?_
      refine r_iast (81 : Int) rfl X hw ho.2.1 dX5_setGrey_34 hf (fun hf H locs hw => ?_)
      refine r_mem hf hw (fun σ4 hw hf => ?_)
      exact w_X5_setGrey_b35 X ho hw (lv_sub hl [1] rfl) hf
def g_X5_boxNamed_b34 (F : Nat) (o : Nat)  (σ : mMem) : mRs := some ((-1), σ)
set_option maxRecDepth 100000 in
set_option maxHeartbeats 4000000 in
theorem w_X5_boxNamed_b34 {p : Program} {l : Launch} {e : Env} {s : State} {m : MethodId} {args : Array Value} {below : List Frame} {meth : Method} {c : Code} {D : va_G} {cy : Nat → ClassId} {ad : Nat → Nat} {bs : Nat} {F : Nat} {o : Nat} (X : mCx p m c cX5_boxNamed 3 s args RX5 meth D cy (some .int)) (ho : mPlan o) {r : Int} {σ' : mMem}    {σ : mMem} {H : Heap} {locs : List Loc} {ls : Array Slot} (hw : mWd D cy ad bs true mN σ s.heap H locs) (hl : lv_has ls 3 [(0, .ref (ad o))]) (hf : g_X5_boxNamed_b34 F o  σ = some (r, σ')) : mGi p l e 1 s m args below meth c D cy ad bs r σ' H locs (F0 m 34 ls []) := by
  obtain ⟨⟨hx, hb, -, -, -⟩, -⟩ := id X
  unfold g_X5_boxNamed_b34 at hf
  refine lv_iconst (v := mI (-1)) hx hb dX5_boxNamed_34 rfl ?_
  exact r_iret X hw dX5_boxNamed_35 hf
def g_X5_boxNamed_h2 (F : Nat) (o : Nat)  : Nat → Int → Int → mMem → mRs
  | 0, _, _, _ => none
  | n + 1, x1, x2, σ => if mw (σ o 11) ≤ mw x2 then (g_X5_boxNamed_b34 F o σ) else (if mw 6 ≤ mw x2 then (g_X5_boxNamed_b34 F o σ) else (if 0 ≤ mw x2 ∧ mw x2 < (6 : Int) then if ¬ mw (σ (o + 2) (mw x2).toNat) = mw x1 then ((g_X5_boxNamed_h2 F o n) x1 (x2 + 1) σ) else (some (x2, σ)) else none))
set_option maxRecDepth 100000 in
set_option maxHeartbeats 4000000 in
theorem w_X5_boxNamed_h2 {p : Program} {l : Launch} {e : Env} {s : State} {m : MethodId} {args : Array Value} {below : List Frame} {meth : Method} {c : Code} {D : va_G} {cy : Nat → ClassId} {ad : Nat → Nat} {bs : Nat} {F : Nat} {o : Nat} (X : mCx p m c cX5_boxNamed 3 s args RX5 meth D cy (some .int)) (ho : mPlan o) {r : Int} {σ' : mMem}   (n : Nat) : ∀ {x1 x2 : Int} {σ : mMem} {H : Heap} {locs : List Loc} {ls : Array Slot} (_ : mWd D cy ad bs true mN σ s.heap H locs) (_ : lv_has ls 3 [(0, .ref (ad o)), (1, .int (mI x1)), (2, .int (mI x2))]) (_ : g_X5_boxNamed_h2 F o n x1 x2 σ = some (r, σ')), mGi p l e 1 s m args below meth c D cy ad bs r σ' H locs (F0 m 2 ls []) := by
  obtain ⟨⟨hx, hb, -, -, -⟩, -⟩ := id X
  induction n with
  | zero =>
    intro x1 x2 σ H locs ls hw hl hf
    unfold g_X5_boxNamed_h2 at hf
    cases hf
  | succ n ih =>
    have hk2 : ∀ (x1 x2 : Int) (σ : mMem) (H : Heap) (locs : List Loc) (ls : Array Slot), mWd D cy ad bs true mN σ s.heap H locs → lv_has ls 3 [(0, .ref (ad o)), (1, .int (mI x1)), (2, .int (mI x2))] → g_X5_boxNamed_h2 F o n x1 x2 σ = some (r, σ') → mGi p l e 1 s m args below meth c D cy ad bs r σ' H locs (F0 m 2 ls []) := fun x1 x2 σ H locs ls hw hl hf => ih hw hl hf
    intro x1 x2 σ H locs ls hw hl hf
    unfold g_X5_boxNamed_h2 at hf
    refine lv_iload_n hx hb dX5_boxNamed_2 rfl (lv_at hl 2 rfl) ?_
    refine lv_aload_n hx hb dX5_boxNamed_3 rfl (lv_at hl 0 rfl) ?_
    refine r_geti X hw ho.1 fd_5_11 rfl lf_X5_59 dX5_boxNamed_4 ?_
    refine r_icmp_ge (tgt := 34) X dX5_boxNamed_7 (by decide) hf (fun hc hf => ?_) (fun hc hf => ?_)
    · exact w_X5_boxNamed_b34 X ho hw (lv_sub hl [0] rfl) hf
    · refine lv_iload_n hx hb dX5_boxNamed_10 rfl (lv_at hl 2 rfl) ?_
      refine lv_bipush (v := mI 6) hx hb dX5_boxNamed_11 (by decide) ?_
      refine r_icmp_ge (tgt := 34) X dX5_boxNamed_13 (by decide) hf (fun hc hf => ?_) (fun hc hf => ?_)
      · exact w_X5_boxNamed_b34 X ho hw (lv_sub hl [0] rfl) hf
      · refine lv_aload_n hx hb dX5_boxNamed_16 rfl (lv_at hl 0 rfl) ?_
        refine r_getr (o + 2) X hw ho.1 fd_5_1 rfl rfl lf_X5_15 dX5_boxNamed_17 ?_
        refine lv_iload_n hx hb dX5_boxNamed_20 rfl (lv_at hl 2 rfl) ?_
        refine r_iald (6 : Int) rfl X hw ho.2.2.1 dX5_boxNamed_21 hf (fun hf => ?_)
        refine lv_iload_n hx hb dX5_boxNamed_22 rfl (lv_at hl 1 rfl) ?_
        refine r_icmp_ne (tgt := 28) X dX5_boxNamed_23 (by decide) hf (fun hc hf => ?_) (fun hc hf => ?_)
        · refine lv_iinc (v := mI (x2 + 1)) (lv' := [(2, .int (mI (x2 + 1))), (0, .ref (ad o)), (1, .int (mI x1))]) hx hb dX5_boxNamed_28 hl (k := 2) rfl (mI_add _ _) (by decide) rfl (fun ls hl => ?_)
          refine lv_goto (tgt := 2) hx hb dX5_boxNamed_31 (by decide) ?_
          exact hk2 x1 (x2 + 1) σ _ _ _ hw (lv_sub hl [1, 2, 0] rfl) hf
        · refine lv_iload_n hx hb dX5_boxNamed_26 rfl (lv_at hl 2 rfl) ?_
          exact r_iret X hw dX5_boxNamed_27 hf
def g_X5_boxNamed (F : Nat) (o : Nat) (x1 : Int) (σ : mMem) : mRs := g_X5_boxNamed_h2 F o F x1 0 σ
set_option maxRecDepth 100000 in
set_option maxHeartbeats 4000000 in
theorem c_X5_boxNamed (l : Launch) (D : va_G) (cy : Nat → ClassId) (ad : Nat → Nat) (bs : Nat) (F : Nat) (o : Nat) (x1 : Int) (σ : mMem) (r : Int) (σ' : mMem) (ho : mPlan o) (hf : g_X5_boxNamed F o x1 σ = some (r, σ')) : mCi l D cy ad bs yX5_boxNamed cX5_boxNamed 3 (some .int) 1 [.ref (ad o), .int (mI x1)] σ r σ' := by
  refine mCi.of (lv := [(0, .ref (ad o)), (1, .int (mI x1))]) km_X5_boxNamed.2.2.2.2.2 (Nat.le_of_ble_eq_true rfl) rfl (fun p e s m args below meth c H locs ls X hw hl => ?_)
  obtain ⟨⟨hx, hb, -, -, -⟩, -⟩ := id X
  unfold g_X5_boxNamed at hf
  refine lv_iconst (v := mI 0) hx hb dX5_boxNamed_0 rfl ?_
  refine lv_istore_n (lv' := [(2, .int (mI 0)), (0, .ref (ad o)), (1, .int (mI x1))]) hx hb dX5_boxNamed_1 rfl hl (by decide) rfl (fun ls hl => ?_)
  exact w_X5_boxNamed_h2 X ho _ hw (lv_sub hl [1, 2, 0] rfl) hf
def g_X5_boxStartingOn (F : Nat) (o : Nat) (x1 x2 : Int) (σ : mMem) : mRs := mob (g_X10_boxIn F (o + 3) 60 (σ o 11) x1 x2 σ) (fun r1 σ2 => some (r1, σ2))
set_option maxRecDepth 100000 in
set_option maxHeartbeats 4000000 in
theorem c_X5_boxStartingOn (l : Launch) (D : va_G) (cy : Nat → ClassId) (ad : Nat → Nat) (bs : Nat) (F : Nat) (o : Nat) (x1 x2 : Int) (σ : mMem) (r : Int) (σ' : mMem) (ho : mPlan o) (hf : g_X5_boxStartingOn F o x1 x2 σ = some (r, σ')) : mCi l D cy ad bs yX5_boxStartingOn cX5_boxStartingOn 3 (some .int) 2 [.ref (ad o), .int (mI x1), .int (mI x2)] σ r σ' := by
  refine mCi.of (lv := [(0, .ref (ad o)), (1, .int (mI x1)), (2, .int (mI x2))]) km_X5_boxStartingOn.2.2.2.2.2 (Nat.le_of_ble_eq_true rfl) rfl (fun p e s m args below meth c H locs ls X hw hl => ?_)
  obtain ⟨⟨hx, hb, -, -, -⟩, -⟩ := id X
  unfold g_X5_boxStartingOn at hf
  refine lv_aload_n hx hb dX5_boxStartingOn_0 rfl (lv_at hl 0 rfl) ?_
  refine r_getr (o + 3) X hw ho.1 fd_5_2 rfl rfl lf_X5_20 dX5_boxStartingOn_1 ?_
  refine lv_aload_n hx hb dX5_boxStartingOn_4 rfl (lv_at hl 0 rfl) ?_
  refine r_geti X hw ho.1 fd_5_11 rfl lf_X5_59 dX5_boxStartingOn_5 ?_
  refine lv_iload_n hx hb dX5_boxStartingOn_8 rfl (lv_at hl 1 rfl) ?_
  refine lv_iload_n hx hb dX5_boxStartingOn_9 rfl (lv_at hl 2 rfl) ?_
  refine r_csi (rest := []) [.ref (ad (o + 3)), .int (mI (σ o 11)), .int (mI x1), .int (mI x2)] X hw (fun ra σa h => c_X10_boxIn l D cy ad bs F (o + 3) 60 (σ o 11) x1 x2 σ ra σa ho.2.2.2.1 h) km_X10_boxIn ks_X10_boxIn lm_X5_75 dX5_boxStartingOn_10 hl.1 rfl rfl (Nat.le_of_ble_eq_true rfl) ⟨by decide, by decide⟩ ⟨Nat.zero_le _, Nat.zero_le _⟩ hf (fun r1 σ2 _ hf H locs hw => ?_)
  exact r_iret X hw dX5_boxStartingOn_13 hf
def g_X5_setStart_b39 (F : Nat) (o : Nat)  (σ : mMem) : mRs := some (0, σ)
set_option maxRecDepth 100000 in
set_option maxHeartbeats 4000000 in
theorem w_X5_setStart_b39 {p : Program} {l : Launch} {e : Env} {s : State} {m : MethodId} {args : Array Value} {below : List Frame} {meth : Method} {c : Code} {D : va_G} {cy : Nat → ClassId} {ad : Nat → Nat} {bs : Nat} {F : Nat} {o : Nat} (X : mCx p m c cX5_setStart 5 s args RX5 meth D cy none) (ho : mPlan o) {r : Int} {σ' : mMem}    {σ : mMem} {H : Heap} {locs : List Loc} {ls : Array Slot} (hw : mWd D cy ad bs true mN σ s.heap H locs) (hl : lv_has ls 5 [(0, .ref (ad o))]) (hf : g_X5_setStart_b39 F o  σ = some (r, σ')) : mGv p l e 2 s m args below meth c D cy ad bs σ' H locs (F0 m 39 ls []) := by
  obtain ⟨⟨hx, hb, -, -, -⟩, -⟩ := id X
  unfold g_X5_setStart_b39 at hf
  exact r_vret X hw dX5_setStart_39 hf
def g_X5_setStart (F : Nat) (o : Nat) (x1 x2 x3 : Int) (σ : mMem) : mRs := mlet ((x1 * 10) + x2) (fun y1 => mob (g_X5_hasBox F o x1 σ) (fun r2 σ3 => if mw r2 = 0 then (g_X5_setStart_b39 F o σ3) else (if mw y1 < 0 then (g_X5_setStart_b39 F o σ3) else (if mw 60 ≤ mw y1 then (g_X5_setStart_b39 F o σ3) else (if 0 ≤ mw y1 ∧ mw y1 < (60 : Int) then mlm (mup σ3 (o + 3) (mw y1).toNat x3) (fun σ4 => g_X5_setStart_b39 F o σ4) else none)))))
set_option maxRecDepth 100000 in
set_option maxHeartbeats 4000000 in
theorem c_X5_setStart (l : Launch) (D : va_G) (cy : Nat → ClassId) (ad : Nat → Nat) (bs : Nat) (F : Nat) (o : Nat) (x1 x2 x3 : Int) (σ : mMem) (r : Int) (σ' : mMem) (ho : mPlan o) (hf : g_X5_setStart F o x1 x2 x3 σ = some (r, σ')) : mCv l D cy ad bs yX5_setStart cX5_setStart 5 none 2 [.ref (ad o), .int (mI x1), .int (mI x2), .int (mI x3)] σ σ' := by
  refine mCv.of (lv := [(0, .ref (ad o)), (1, .int (mI x1)), (2, .int (mI x2)), (3, .int (mI x3))]) km_X5_setStart.2.2.2.2.2 (Nat.le_of_ble_eq_true rfl) rfl (fun p e s m args below meth c H locs ls X hw hl => ?_)
  obtain ⟨⟨hx, hb, -, -, -⟩, -⟩ := id X
  unfold g_X5_setStart at hf
  refine lv_iload_n hx hb dX5_setStart_0 rfl (lv_at hl 1 rfl) ?_
  refine lv_bipush (v := mI 10) hx hb dX5_setStart_1 (by decide) ?_
  refine r_imul X dX5_setStart_3 ?_
  refine lv_iload_n hx hb dX5_setStart_4 rfl (lv_at hl 2 rfl) ?_
  refine r_iadd X dX5_setStart_5 ?_
  refine r_leti hf (fun y1 hf => ?_)
  refine lv_istore (lv' := [(4, .int (mI y1)), (0, .ref (ad o)), (1, .int (mI x1)), (2, .int (mI x2)), (3, .int (mI x3))]) hx hb dX5_setStart_6 hl (by decide) rfl (fun ls hl => ?_)
  refine lv_aload_n hx hb dX5_setStart_8 rfl (lv_at hl 1 rfl) ?_
  refine lv_iload_n hx hb dX5_setStart_9 rfl (lv_at hl 2 rfl) ?_
  refine r_cvi (rest := []) [.int (mI x1)] X hw (fun ra σa h => c_X5_hasBox l D cy ad bs F o x1 σ ra σa ho h) ho.1 rfl (by decide) rfl km_X5_hasBox kv_X5_hasBox lm_X5_83 dX5_setStart_10 hl.1 rfl rfl (Nat.le_of_ble_eq_true rfl) ⟨by decide, by decide⟩ ⟨Nat.zero_le _, Nat.zero_le _⟩ hf (fun r2 σ3 _ hf H locs hw => ?_)
  refine r_if_eq (tgt := 39) X dX5_setStart_13 (by decide) hf (fun hc hf => ?_) (fun hc hf => ?_)
  · exact w_X5_setStart_b39 X ho hw (lv_sub hl [1] rfl) hf
  · refine lv_iload hx hb dX5_setStart_16 (lv_at hl 0 rfl) ?_
    refine r_if_lt (tgt := 39) X dX5_setStart_18 (by decide) hf (fun hc hf => ?_) (fun hc hf => ?_)
    · exact w_X5_setStart_b39 X ho hw (lv_sub hl [1] rfl) hf
    · refine lv_iload hx hb dX5_setStart_21 (lv_at hl 0 rfl) ?_
      refine lv_aload_n hx hb dX5_setStart_23 rfl (lv_at hl 1 rfl) ?_
      refine r_getr (o + 3) X hw ho.1 fd_5_2 rfl rfl lf_X5_20 dX5_setStart_24 ?_
      refine r_ileni (60 : Int) rfl X hw ho.2.2.2.1 dX5_setStart_27 ?_
      refine r_icmp_ge (tgt := 39) X dX5_setStart_28 (by decide) hf (fun hc hf => ?_) (fun hc hf => ?_)
      · exact w_X5_setStart_b39 X ho hw (lv_sub hl [1] rfl) hf
      · refine lv_aload_n hx hb dX5_setStart_31 rfl (lv_at hl 1 rfl) ?_
        refine r_getr (o + 3) X hw ho.1 fd_5_2 rfl rfl lf_X5_20 dX5_setStart_32 ?_
        refine lv_iload hx hb dX5_setStart_35 (lv_at hl 0 rfl) ?_
        refine lv_iload_n hx hb dX5_setStart_37 rfl (lv_at hl 4 rfl) ?_
        refine r_iast (60 : Int) rfl X hw ho.2.2.2.1 dX5_setStart_38 hf (fun hf H locs hw => ?_)
        refine r_mem hf hw (fun σ4 hw hf => ?_)
        exact w_X5_setStart_b39 X ho hw (lv_sub hl [1] rfl) hf
def g_X5_addBox_b16 (F : Nat) (o : Nat)  (σ : mMem) : mRs := some (0, σ)
set_option maxRecDepth 100000 in
set_option maxHeartbeats 4000000 in
theorem w_X5_addBox_b16 {p : Program} {l : Launch} {e : Env} {s : State} {m : MethodId} {args : Array Value} {below : List Frame} {meth : Method} {c : Code} {D : va_G} {cy : Nat → ClassId} {ad : Nat → Nat} {bs : Nat} {F : Nat} {o : Nat} (X : mCx p m c cX5_addBox 5 s args RX5 meth D cy none) (ho : mPlan o) {r : Int} {σ' : mMem}    {σ : mMem} {H : Heap} {locs : List Loc} {ls : Array Slot} (hw : mWd D cy ad bs true mN σ s.heap H locs) (hl : lv_has ls 5 [(0, .ref (ad o))]) (hf : g_X5_addBox_b16 F o  σ = some (r, σ')) : mGv p l e 3 s m args below meth c D cy ad bs σ' H locs (F0 m 16 ls []) := by
  obtain ⟨⟨hx, hb, -, -, -⟩, -⟩ := id X
  unfold g_X5_addBox_b16 at hf
  exact r_vret X hw dX5_addBox_16 hf
def g_X5_addBox (F : Nat) (o : Nat) (x1 x2 x3 x4 : Int) (σ : mMem) : mRs := if mw (σ o 11) < 0 then (g_X5_addBox_b16 F o σ) else (if mw (σ o 11) < mw 6 then (if 0 ≤ mw (σ o 11) ∧ mw (σ o 11) < (6 : Int) then mlm (mup σ (o + 2) (mw (σ o 11)).toNat x1) (fun σ1 => mlm (mup σ1 o 11 ((σ1 o 11) + 1)) (fun σ2 => mob (g_X5_setStart F o ((σ2 o 11) - 1) 0 x2 σ2) (fun r3 σ4 => mob (g_X5_setStart F o ((σ4 o 11) - 1) 1 x3 σ4) (fun r5 σ6 => mob (g_X5_setStart F o ((σ6 o 11) - 1) 2 x4 σ6) (fun r7 σ8 => mob (g_X5_setStart F o ((σ8 o 11) - 1) 5 1 σ8) (fun r9 σ10 => mob (g_X5_setStart F o ((σ10 o 11) - 1) 6 1 σ10) (fun r11 σ12 => some (0, σ12)))))))) else none) else (g_X5_addBox_b16 F o σ))
set_option maxRecDepth 100000 in
set_option maxHeartbeats 4000000 in
theorem c_X5_addBox (l : Launch) (D : va_G) (cy : Nat → ClassId) (ad : Nat → Nat) (bs : Nat) (F : Nat) (o : Nat) (x1 x2 x3 x4 : Int) (σ : mMem) (r : Int) (σ' : mMem) (ho : mPlan o) (hf : g_X5_addBox F o x1 x2 x3 x4 σ = some (r, σ')) : mCv l D cy ad bs yX5_addBox cX5_addBox 5 none 3 [.ref (ad o), .int (mI x1), .int (mI x2), .int (mI x3), .int (mI x4)] σ σ' := by
  refine mCv.of (lv := [(0, .ref (ad o)), (1, .int (mI x1)), (2, .int (mI x2)), (3, .int (mI x3)), (4, .int (mI x4))]) km_X5_addBox.2.2.2.2.2 (Nat.le_of_ble_eq_true rfl) rfl (fun p e s m args below meth c H locs ls X hw hl => ?_)
  obtain ⟨⟨hx, hb, -, -, -⟩, -⟩ := id X
  unfold g_X5_addBox at hf
  refine lv_aload_n hx hb dX5_addBox_0 rfl (lv_at hl 0 rfl) ?_
  refine r_geti X hw ho.1 fd_5_11 rfl lf_X5_59 dX5_addBox_1 ?_
  refine r_if_lt (tgt := 16) X dX5_addBox_4 (by decide) hf (fun hc hf => ?_) (fun hc hf => ?_)
  · exact w_X5_addBox_b16 X ho hw (lv_sub hl [0] rfl) hf
  · refine lv_aload_n hx hb dX5_addBox_7 rfl (lv_at hl 0 rfl) ?_
    refine r_geti X hw ho.1 fd_5_11 rfl lf_X5_59 dX5_addBox_8 ?_
    refine lv_bipush (v := mI 6) hx hb dX5_addBox_11 (by decide) ?_
    refine r_icmp_lt (tgt := 17) X dX5_addBox_13 (by decide) hf (fun hc hf => ?_) (fun hc hf => ?_)
    · refine lv_aload_n hx hb dX5_addBox_17 rfl (lv_at hl 0 rfl) ?_
      refine r_getr (o + 2) X hw ho.1 fd_5_1 rfl rfl lf_X5_15 dX5_addBox_18 ?_
      refine lv_aload_n hx hb dX5_addBox_21 rfl (lv_at hl 0 rfl) ?_
      refine r_geti X hw ho.1 fd_5_11 rfl lf_X5_59 dX5_addBox_22 ?_
      refine lv_iload_n hx hb dX5_addBox_25 rfl (lv_at hl 1 rfl) ?_
      refine r_iast (6 : Int) rfl X hw ho.2.2.1 dX5_addBox_26 hf (fun hf H locs hw => ?_)
      refine r_mem hf hw (fun σ1 hw hf => ?_)
      refine lv_aload_n hx hb dX5_addBox_27 rfl (lv_at hl 0 rfl) ?_
      refine lv_dup hx hb dX5_addBox_28 rfl ?_
      refine r_geti X hw ho.1 fd_5_11 rfl lf_X5_59 dX5_addBox_29 ?_
      refine lv_iconst (v := mI 1) hx hb dX5_addBox_32 rfl ?_
      refine r_iadd X dX5_addBox_33 ?_
      refine r_puti X hw ho.1 fd_5_11 fp_5_11 rfl rfl lf_X5_59 dX5_addBox_34 (fun H locs hw => ?_)
      refine r_mem hf hw (fun σ2 hw hf => ?_)
      refine lv_aload_n hx hb dX5_addBox_37 rfl (lv_at hl 0 rfl) ?_
      refine lv_aload_n hx hb dX5_addBox_38 rfl (lv_at hl 0 rfl) ?_
      refine r_geti X hw ho.1 fd_5_11 rfl lf_X5_59 dX5_addBox_39 ?_
      refine lv_iconst (v := mI 1) hx hb dX5_addBox_42 rfl ?_
      refine r_isub X dX5_addBox_43 ?_
      refine lv_iconst (v := mI 0) hx hb dX5_addBox_44 rfl ?_
      refine lv_iload_n hx hb dX5_addBox_45 rfl (lv_at hl 2 rfl) ?_
      refine r_cvv (rest := []) [.int (mI ((σ2 o 11) - 1)), .int (mI 0), .int (mI x2)] X hw (fun ra σa h => c_X5_setStart l D cy ad bs F o ((σ2 o 11) - 1) 0 x2 σ2 ra σa ho h) ho.1 rfl (by decide) rfl km_X5_setStart kv_X5_setStart lm_X5_79 dX5_addBox_46 hl.1 rfl rfl (Nat.le_of_ble_eq_true rfl) ⟨by decide, by decide⟩ ⟨Nat.zero_le _, Nat.zero_le _⟩ hf (fun r3 σ4 _ hf H locs hw => ?_)
      refine lv_aload_n hx hb dX5_addBox_49 rfl (lv_at hl 0 rfl) ?_
      refine lv_aload_n hx hb dX5_addBox_50 rfl (lv_at hl 0 rfl) ?_
      refine r_geti X hw ho.1 fd_5_11 rfl lf_X5_59 dX5_addBox_51 ?_
      refine lv_iconst (v := mI 1) hx hb dX5_addBox_54 rfl ?_
      refine r_isub X dX5_addBox_55 ?_
      refine lv_iconst (v := mI 1) hx hb dX5_addBox_56 rfl ?_
      refine lv_iload_n hx hb dX5_addBox_57 rfl (lv_at hl 3 rfl) ?_
      refine r_cvv (rest := []) [.int (mI ((σ4 o 11) - 1)), .int (mI 1), .int (mI x3)] X hw (fun ra σa h => c_X5_setStart l D cy ad bs F o ((σ4 o 11) - 1) 1 x3 σ4 ra σa ho h) ho.1 rfl (by decide) rfl km_X5_setStart kv_X5_setStart lm_X5_79 dX5_addBox_58 hl.1 rfl rfl (Nat.le_of_ble_eq_true rfl) ⟨by decide, by decide⟩ ⟨Nat.zero_le _, Nat.zero_le _⟩ hf (fun r5 σ6 _ hf H locs hw => ?_)
      refine lv_aload_n hx hb dX5_addBox_61 rfl (lv_at hl 0 rfl) ?_
      refine lv_aload_n hx hb dX5_addBox_62 rfl (lv_at hl 0 rfl) ?_
      refine r_geti X hw ho.1 fd_5_11 rfl lf_X5_59 dX5_addBox_63 ?_
      refine lv_iconst (v := mI 1) hx hb dX5_addBox_66 rfl ?_
      refine r_isub X dX5_addBox_67 ?_
      refine lv_iconst (v := mI 2) hx hb dX5_addBox_68 rfl ?_
      refine lv_iload hx hb dX5_addBox_69 (lv_at hl 4 rfl) ?_
      refine r_cvv (rest := []) [.int (mI ((σ6 o 11) - 1)), .int (mI 2), .int (mI x4)] X hw (fun ra σa h => c_X5_setStart l D cy ad bs F o ((σ6 o 11) - 1) 2 x4 σ6 ra σa ho h) ho.1 rfl (by decide) rfl km_X5_setStart kv_X5_setStart lm_X5_79 dX5_addBox_71 hl.1 rfl rfl (Nat.le_of_ble_eq_true rfl) ⟨by decide, by decide⟩ ⟨Nat.zero_le _, Nat.zero_le _⟩ hf (fun r7 σ8 _ hf H locs hw => ?_)
      refine lv_aload_n hx hb dX5_addBox_74 rfl (lv_at hl 0 rfl) ?_
      refine lv_aload_n hx hb dX5_addBox_75 rfl (lv_at hl 0 rfl) ?_
      refine r_geti X hw ho.1 fd_5_11 rfl lf_X5_59 dX5_addBox_76 ?_
      refine lv_iconst (v := mI 1) hx hb dX5_addBox_79 rfl ?_
      refine r_isub X dX5_addBox_80 ?_
      refine lv_iconst (v := mI 5) hx hb dX5_addBox_81 rfl ?_
      refine lv_iconst (v := mI 1) hx hb dX5_addBox_82 rfl ?_
      refine r_cvv (rest := []) [.int (mI ((σ8 o 11) - 1)), .int (mI 5), .int (mI 1)] X hw (fun ra σa h => c_X5_setStart l D cy ad bs F o ((σ8 o 11) - 1) 5 1 σ8 ra σa ho h) ho.1 rfl (by decide) rfl km_X5_setStart kv_X5_setStart lm_X5_79 dX5_addBox_83 hl.1 rfl rfl (Nat.le_of_ble_eq_true rfl) ⟨by decide, by decide⟩ ⟨Nat.zero_le _, Nat.zero_le _⟩ hf (fun r9 σ10 _ hf H locs hw => ?_)
      refine lv_aload_n hx hb dX5_addBox_86 rfl (lv_at hl 0 rfl) ?_
      refine lv_aload_n hx hb dX5_addBox_87 rfl (lv_at hl 0 rfl) ?_
      refine r_geti X hw ho.1 fd_5_11 rfl lf_X5_59 dX5_addBox_88 ?_
      refine lv_iconst (v := mI 1) hx hb dX5_addBox_91 rfl ?_
      refine r_isub X dX5_addBox_92 ?_
      refine lv_bipush (v := mI 6) hx hb dX5_addBox_93 (by decide) ?_
      refine lv_iconst (v := mI 1) hx hb dX5_addBox_95 rfl ?_
      refine r_cvv (rest := []) [.int (mI ((σ10 o 11) - 1)), .int (mI 6), .int (mI 1)] X hw (fun ra σa h => c_X5_setStart l D cy ad bs F o ((σ10 o 11) - 1) 6 1 σ10 ra σa ho h) ho.1 rfl (by decide) rfl km_X5_setStart kv_X5_setStart lm_X5_79 dX5_addBox_96 hl.1 rfl rfl (Nat.le_of_ble_eq_true rfl) ⟨by decide, by decide⟩ ⟨Nat.zero_le _, Nat.zero_le _⟩ hf (fun r11 σ12 _ hf H locs hw => ?_)
      exact r_vret X hw dX5_addBox_99 hf
    · exact w_X5_addBox_b16 X ho hw (lv_sub hl [0] rfl) hf
def g_X6_takeBoxName_b50 (F : Nat)  (x1 : Int) (σ : mMem) : mRs := mob (g_X8_next F σ) (fun r108 σ109 => some (x1, σ109))
set_option maxRecDepth 100000 in
set_option maxHeartbeats 4000000 in
theorem w_X6_takeBoxName_b50 {p : Program} {l : Launch} {e : Env} {s : State} {m : MethodId} {args : Array Value} {below : List Frame} {meth : Method} {c : Code} {D : va_G} {cy : Nat → ClassId} {ad : Nat → Nat} {bs : Nat} {F : Nat}  (X : mCx p m c cX6_takeBoxName 2 s args RX6 meth D cy (some .int))  {r : Int} {σ' : mMem}   {x1 : Int} {σ : mMem} {H : Heap} {locs : List Loc} {ls : Array Slot} (hw : mWd D cy ad bs true mN σ s.heap H locs) (hl : lv_has ls 2 [(0, .ref (ad 13)), (1, .int (mI x1))]) (hf : g_X6_takeBoxName_b50 F x1 σ = some (r, σ')) : mGi p l e 3 s m args below meth c D cy ad bs r σ' H locs (F0 m 50 ls []) := by
  obtain ⟨⟨hx, hb, -, -, -⟩, -⟩ := id X
  unfold g_X6_takeBoxName_b50 at hf
  refine lv_aload_n hx hb dX6_takeBoxName_50 rfl (lv_at hl 0 rfl) ?_
  refine r_getr 14 X hw sh_13 fd_6_0 rfl rfl lf_X6_14 dX6_takeBoxName_51 ?_
  refine r_cvv (rest := []) [] X hw (fun ra σa h => c_X8_next l D cy ad bs F σ ra σa  h) sh_14 rfl (by decide) rfl km_X8_next kv_X8_next lm_X6_105 dX6_takeBoxName_54 hl.1 rfl rfl (Nat.le_of_ble_eq_true rfl) ⟨by decide, by decide⟩ ⟨Nat.zero_le _, Nat.zero_le _⟩ hf (fun r108 σ109 _ hf H locs hw => ?_)
  refine lv_iload_n hx hb dX6_takeBoxName_57 rfl (lv_at hl 1 rfl) ?_
  exact r_iret X hw dX6_takeBoxName_58 hf
def g_X6_takeBoxName (F : Nat) (σ : mMem) : mRs := if σ 13 2 = 3 ∨ σ 13 2 = 8 then mob (g_X5_boxNamed F (σ 13 2).toNat (σ 14 9) σ) (fun r2 σ3 => if mw (σ3 14 7) = mw 1 then (if ¬ mw r2 = mw (-1) then (g_X6_takeBoxName_b50 F r2 σ3) else (mob (g_X8_refuseHere F 3 σ3) (fun r4 σ5 => g_X6_takeBoxName_b50 F r2 σ5))) else (mob (g_X8_refuseHere F 1 σ3) (fun r6 σ7 => g_X6_takeBoxName_b50 F r2 σ7))) else none
set_option maxRecDepth 100000 in
set_option maxHeartbeats 4000000 in
theorem c_X6_takeBoxName (l : Launch) (D : va_G) (cy : Nat → ClassId) (ad : Nat → Nat) (bs : Nat) (F : Nat)   (σ : mMem) (r : Int) (σ' : mMem)  (hf : g_X6_takeBoxName F  σ = some (r, σ')) : mCi l D cy ad bs yX6_takeBoxName cX6_takeBoxName 2 (some .int) 3 [.ref (ad 13)] σ r σ' := by
  refine mCi.of (lv := [(0, .ref (ad 13))]) km_X6_takeBoxName.2.2.2.2.2 (Nat.le_of_ble_eq_true rfl) rfl (fun p e s m args below meth c H locs ls X hw hl => ?_)
  obtain ⟨⟨hx, hb, -, -, -⟩, -⟩ := id X
  unfold g_X6_takeBoxName at hf
  refine lv_aload_n hx hb dX6_takeBoxName_0 rfl (lv_at hl 0 rfl) ?_
  refine r_getp X hw sh_13 fd_6_2 rfl lf_X6_29 dX6_takeBoxName_1 hf (fun hg1 hf => ?_)
  refine lv_aload_n hx hb dX6_takeBoxName_4 rfl (lv_at hl 0 rfl) ?_
  refine r_getr 14 X hw sh_13 fd_6_0 rfl rfl lf_X6_14 dX6_takeBoxName_5 ?_
  refine r_geti X hw sh_14 fd_8_9 rfl lf_X6_60 dX6_takeBoxName_8 ?_
  refine r_cvi (rest := []) [.int (mI (σ 14 9))] X hw (fun ra σa h => c_X5_boxNamed l D cy ad bs F (σ 13 2).toNat (σ 14 9) σ ra σa (mPlan_z hg1) h) (mPlan_z hg1).1 rfl (by decide) rfl km_X5_boxNamed kv_X5_boxNamed lm_X6_153 dX6_takeBoxName_11 hl.1 rfl rfl (Nat.le_of_ble_eq_true rfl) ⟨by decide, by decide⟩ ⟨Nat.zero_le _, Nat.zero_le _⟩ hf (fun r2 σ3 _ hf H locs hw => ?_)
  refine lv_istore_n (lv' := [(1, .int (mI r2)), (0, .ref (ad 13))]) hx hb dX6_takeBoxName_14 rfl hl (by decide) rfl (fun ls hl => ?_)
  refine lv_aload_n hx hb dX6_takeBoxName_15 rfl (lv_at hl 1 rfl) ?_
  refine r_getr 14 X hw sh_13 fd_6_0 rfl rfl lf_X6_14 dX6_takeBoxName_16 ?_
  refine r_geti X hw sh_14 fd_8_7 rfl lf_X6_56 dX6_takeBoxName_19 ?_
  refine lv_iconst (v := mI 1) hx hb dX6_takeBoxName_22 rfl ?_
  refine r_icmp_eq (tgt := 37) X dX6_takeBoxName_23 (by decide) hf (fun hc hf => ?_) (fun hc hf => ?_)
  · refine lv_iload_n hx hb dX6_takeBoxName_37 rfl (lv_at hl 0 rfl) ?_
    refine lv_iconst (v := mI (-1)) hx hb dX6_takeBoxName_38 rfl ?_
    refine r_icmp_ne (tgt := 50) X dX6_takeBoxName_39 (by decide) hf (fun hc hf => ?_) (fun hc hf => ?_)
    · exact w_X6_takeBoxName_b50 X hw (lv_sub hl [1, 0] rfl) hf
    · refine lv_aload_n hx hb dX6_takeBoxName_42 rfl (lv_at hl 1 rfl) ?_
      refine r_getr 14 X hw sh_13 fd_6_0 rfl rfl lf_X6_14 dX6_takeBoxName_43 ?_
      refine lv_iconst (v := mI 3) hx hb dX6_takeBoxName_46 rfl ?_
      refine r_cvv (rest := []) [.int (mI 3)] X hw (fun ra σa h => c_X8_refuseHere l D cy ad bs F 3 σ3 ra σa  h) sh_14 rfl (by decide) rfl km_X8_refuseHere kv_X8_refuseHere lm_X6_63 dX6_takeBoxName_47 hl.1 rfl rfl (Nat.le_of_ble_eq_true rfl) ⟨by decide, by decide⟩ ⟨Nat.zero_le _, Nat.zero_le _⟩ hf (fun r4 σ5 _ hf H locs hw => ?_)
      exact w_X6_takeBoxName_b50 X hw (lv_sub hl [1, 0] rfl) hf
  · refine lv_aload_n hx hb dX6_takeBoxName_26 rfl (lv_at hl 1 rfl) ?_
    refine r_getr 14 X hw sh_13 fd_6_0 rfl rfl lf_X6_14 dX6_takeBoxName_27 ?_
    refine lv_iconst (v := mI 1) hx hb dX6_takeBoxName_30 rfl ?_
    refine r_cvv (rest := []) [.int (mI 1)] X hw (fun ra σa h => c_X8_refuseHere l D cy ad bs F 1 σ3 ra σa  h) sh_14 rfl (by decide) rfl km_X8_refuseHere kv_X8_refuseHere lm_X6_63 dX6_takeBoxName_31 hl.1 rfl rfl (Nat.le_of_ble_eq_true rfl) ⟨by decide, by decide⟩ ⟨Nat.zero_le _, Nat.zero_le _⟩ hf (fun r6 σ7 _ hf H locs hw => ?_)
    refine lv_goto (tgt := 50) hx hb dX6_takeBoxName_34 (by decide) ?_
    exact w_X6_takeBoxName_b50 X hw (lv_sub hl [1, 0] rfl) hf
def g_X8_takeNumber_b37 (F : Nat)  (σ : mMem) : mRs := mlet (σ 14 9) (fun y103 => mob (g_X8_next F σ) (fun r104 σ105 => some (y103, σ105)))
set_option maxRecDepth 100000 in
set_option maxHeartbeats 4000000 in
theorem w_X8_takeNumber_b37 {p : Program} {l : Launch} {e : Env} {s : State} {m : MethodId} {args : Array Value} {below : List Frame} {meth : Method} {c : Code} {D : va_G} {cy : Nat → ClassId} {ad : Nat → Nat} {bs : Nat} {F : Nat}  (X : mCx p m c cX8_takeNumber 4 s args RX8 meth D cy (some .int))  {r : Int} {σ' : mMem}    {σ : mMem} {H : Heap} {locs : List Loc} {ls : Array Slot} (hw : mWd D cy ad bs true mN σ s.heap H locs) (hl : lv_has ls 4 [(0, .ref (ad 14))]) (hf : g_X8_takeNumber_b37 F  σ = some (r, σ')) : mGi p l e 3 s m args below meth c D cy ad bs r σ' H locs (F0 m 37 ls []) := by
  obtain ⟨⟨hx, hb, -, -, -⟩, -⟩ := id X
  unfold g_X8_takeNumber_b37 at hf
  refine lv_aload_n hx hb dX8_takeNumber_37 rfl (lv_at hl 0 rfl) ?_
  refine r_geti X hw sh_14 fd_8_9 rfl lf_X8_107 dX8_takeNumber_38 ?_
  refine r_leti hf (fun y103 hf => ?_)
  refine lv_istore_n (lv' := [(3, .int (mI y103)), (0, .ref (ad 14))]) hx hb dX8_takeNumber_41 rfl hl (by decide) rfl (fun ls hl => ?_)
  refine lv_aload_n hx hb dX8_takeNumber_42 rfl (lv_at hl 1 rfl) ?_
  refine r_cvv (rest := []) [] X hw (fun ra σa h => c_X8_next l D cy ad bs F σ ra σa  h) sh_14 rfl (by decide) rfl km_X8_next kv_X8_next lm_X8_71 dX8_takeNumber_43 hl.1 rfl rfl (Nat.le_of_ble_eq_true rfl) ⟨by decide, by decide⟩ ⟨Nat.zero_le _, Nat.zero_le _⟩ hf (fun r104 σ105 _ hf H locs hw => ?_)
  refine lv_iload_n hx hb dX8_takeNumber_46 rfl (lv_at hl 0 rfl) ?_
  exact r_iret X hw dX8_takeNumber_47 hf
def g_X8_takeNumber_b32 (F : Nat)  (σ : mMem) : mRs := mob (g_X8_refuseHere F 4 σ) (fun r206 σ207 => g_X8_takeNumber_b37 F σ207)
set_option maxRecDepth 100000 in
set_option maxHeartbeats 4000000 in
theorem w_X8_takeNumber_b32 {p : Program} {l : Launch} {e : Env} {s : State} {m : MethodId} {args : Array Value} {below : List Frame} {meth : Method} {c : Code} {D : va_G} {cy : Nat → ClassId} {ad : Nat → Nat} {bs : Nat} {F : Nat}  (X : mCx p m c cX8_takeNumber 4 s args RX8 meth D cy (some .int))  {r : Int} {σ' : mMem}    {σ : mMem} {H : Heap} {locs : List Loc} {ls : Array Slot} (hw : mWd D cy ad bs true mN σ s.heap H locs) (hl : lv_has ls 4 [(0, .ref (ad 14))]) (hf : g_X8_takeNumber_b32 F  σ = some (r, σ')) : mGi p l e 3 s m args below meth c D cy ad bs r σ' H locs (F0 m 32 ls []) := by
  obtain ⟨⟨hx, hb, -, -, -⟩, -⟩ := id X
  unfold g_X8_takeNumber_b32 at hf
  refine lv_aload_n hx hb dX8_takeNumber_32 rfl (lv_at hl 0 rfl) ?_
  refine lv_iconst (v := mI 4) hx hb dX8_takeNumber_33 rfl ?_
  refine r_cvv (rest := []) [.int (mI 4)] X hw (fun ra σa h => c_X8_refuseHere l D cy ad bs F 4 σ ra σa  h) sh_14 rfl (by decide) rfl km_X8_refuseHere kv_X8_refuseHere lm_X8_110 dX8_takeNumber_34 hl.1 rfl rfl (Nat.le_of_ble_eq_true rfl) ⟨by decide, by decide⟩ ⟨Nat.zero_le _, Nat.zero_le _⟩ hf (fun r206 σ207 _ hf H locs hw => ?_)
  exact w_X8_takeNumber_b37 X hw (lv_sub hl [0] rfl) hf
def g_X8_takeNumber (F : Nat) (x1 x2 : Int) (σ : mMem) : mRs := if mw (σ 14 7) = mw 3 then (if mw (σ 14 9) < mw x1 then (g_X8_takeNumber_b32 F σ) else (if mw (σ 14 9) ≤ mw x2 then (g_X8_takeNumber_b37 F σ) else (g_X8_takeNumber_b32 F σ))) else (mob (g_X8_refuseHere F 1 σ) (fun r1 σ2 => g_X8_takeNumber_b37 F σ2))
set_option maxRecDepth 100000 in
set_option maxHeartbeats 4000000 in
theorem c_X8_takeNumber (l : Launch) (D : va_G) (cy : Nat → ClassId) (ad : Nat → Nat) (bs : Nat) (F : Nat)  (x1 x2 : Int) (σ : mMem) (r : Int) (σ' : mMem)  (hf : g_X8_takeNumber F x1 x2 σ = some (r, σ')) : mCi l D cy ad bs yX8_takeNumber cX8_takeNumber 4 (some .int) 3 [.ref (ad 14), .int (mI x1), .int (mI x2)] σ r σ' := by
  refine mCi.of (lv := [(0, .ref (ad 14)), (1, .int (mI x1)), (2, .int (mI x2))]) km_X8_takeNumber.2.2.2.2.2 (Nat.le_of_ble_eq_true rfl) rfl (fun p e s m args below meth c H locs ls X hw hl => ?_)
  obtain ⟨⟨hx, hb, -, -, -⟩, -⟩ := id X
  unfold g_X8_takeNumber at hf
  refine lv_aload_n hx hb dX8_takeNumber_0 rfl (lv_at hl 0 rfl) ?_
  refine r_geti X hw sh_14 fd_8_7 rfl lf_X8_104 dX8_takeNumber_1 ?_
  refine lv_iconst (v := mI 3) hx hb dX8_takeNumber_4 rfl ?_
  refine r_icmp_eq (tgt := 16) X dX8_takeNumber_5 (by decide) hf (fun hc hf => ?_) (fun hc hf => ?_)
  · refine lv_aload_n hx hb dX8_takeNumber_16 rfl (lv_at hl 0 rfl) ?_
    refine r_geti X hw sh_14 fd_8_9 rfl lf_X8_107 dX8_takeNumber_17 ?_
    refine lv_iload_n hx hb dX8_takeNumber_20 rfl (lv_at hl 1 rfl) ?_
    refine r_icmp_lt (tgt := 32) X dX8_takeNumber_21 (by decide) hf (fun hc hf => ?_) (fun hc hf => ?_)
    · exact w_X8_takeNumber_b32 X hw (lv_sub hl [0] rfl) hf
    · refine lv_aload_n hx hb dX8_takeNumber_24 rfl (lv_at hl 0 rfl) ?_
      refine r_geti X hw sh_14 fd_8_9 rfl lf_X8_107 dX8_takeNumber_25 ?_
      refine lv_iload_n hx hb dX8_takeNumber_28 rfl (lv_at hl 2 rfl) ?_
      refine r_icmp_le (tgt := 37) X dX8_takeNumber_29 (by decide) hf (fun hc hf => ?_) (fun hc hf => ?_)
      · exact w_X8_takeNumber_b37 X hw (lv_sub hl [0] rfl) hf
      · exact w_X8_takeNumber_b32 X hw (lv_sub hl [0] rfl) hf
  · refine lv_aload_n hx hb dX8_takeNumber_8 rfl (lv_at hl 0 rfl) ?_
    refine lv_iconst (v := mI 1) hx hb dX8_takeNumber_9 rfl ?_
    refine r_cvv (rest := []) [.int (mI 1)] X hw (fun ra σa h => c_X8_refuseHere l D cy ad bs F 1 σ ra σa  h) sh_14 rfl (by decide) rfl km_X8_refuseHere kv_X8_refuseHere lm_X8_110 dX8_takeNumber_10 hl.1 rfl rfl (Nat.le_of_ble_eq_true rfl) ⟨by decide, by decide⟩ ⟨Nat.zero_le _, Nat.zero_le _⟩ hf (fun r1 σ2 _ hf H locs hw => ?_)
    refine lv_goto (tgt := 37) hx hb dX8_takeNumber_13 (by decide) ?_
    exact w_X8_takeNumber_b37 X hw (lv_sub hl [0] rfl) hf
def g_X6_readBias (F : Nat) (σ : mMem) : mRs := mob (g_X8_next F σ) (fun r1 σ2 => mob (g_X6_takeBoxName F σ2) (fun r3 σ4 => if σ4 13 2 = 3 ∨ σ4 13 2 = 8 then mob (g_X8_takeNumber F 0 9 σ4) (fun r6 σ7 => mob (g_X5_setStart F (σ4 13 2).toNat r3 7 r6 σ7) (fun r8 σ9 => some (0, σ9))) else none))
set_option maxRecDepth 100000 in
set_option maxHeartbeats 4000000 in
theorem c_X6_readBias (l : Launch) (D : va_G) (cy : Nat → ClassId) (ad : Nat → Nat) (bs : Nat) (F : Nat)   (σ : mMem) (r : Int) (σ' : mMem)  (hf : g_X6_readBias F  σ = some (r, σ')) : mCv l D cy ad bs yX6_readBias cX6_readBias 2 none 4 [.ref (ad 13)] σ σ' := by
  refine mCv.of (lv := [(0, .ref (ad 13))]) km_X6_readBias.2.2.2.2.2 (Nat.le_of_ble_eq_true rfl) rfl (fun p e s m args below meth c H locs ls X hw hl => ?_)
  obtain ⟨⟨hx, hb, -, -, -⟩, -⟩ := id X
  unfold g_X6_readBias at hf
  refine lv_aload_n hx hb dX6_readBias_0 rfl (lv_at hl 0 rfl) ?_
  refine r_getr 14 X hw sh_13 fd_6_0 rfl rfl lf_X6_14 dX6_readBias_1 ?_
  refine r_cvv (rest := []) [] X hw (fun ra σa h => c_X8_next l D cy ad bs F σ ra σa  h) sh_14 rfl (by decide) rfl km_X8_next kv_X8_next lm_X6_105 dX6_readBias_4 hl.1 rfl rfl (Nat.le_of_ble_eq_true rfl) ⟨by decide, by decide⟩ ⟨Nat.zero_le _, Nat.zero_le _⟩ hf (fun r1 σ2 _ hf H locs hw => ?_)
  refine lv_aload_n hx hb dX6_readBias_7 rfl (lv_at hl 0 rfl) ?_
  refine r_cvi (rest := []) [] X hw (fun ra σa h => c_X6_takeBoxName l D cy ad bs F σ2 ra σa  h) sh_13 rfl (by decide) rfl km_X6_takeBoxName kv_X6_takeBoxName lm_X6_136 dX6_readBias_8 hl.1 rfl rfl (Nat.le_of_ble_eq_true rfl) ⟨by decide, by decide⟩ ⟨Nat.zero_le _, Nat.zero_le _⟩ hf (fun r3 σ4 _ hf H locs hw => ?_)
  refine lv_istore_n (lv' := [(1, .int (mI r3)), (0, .ref (ad 13))]) hx hb dX6_readBias_11 rfl hl (by decide) rfl (fun ls hl => ?_)
  refine lv_aload_n hx hb dX6_readBias_12 rfl (lv_at hl 1 rfl) ?_
  refine r_getp X hw sh_13 fd_6_2 rfl lf_X6_29 dX6_readBias_13 hf (fun hg5 hf => ?_)
  refine lv_iload_n hx hb dX6_readBias_16 rfl (lv_at hl 0 rfl) ?_
  refine lv_bipush (v := mI 7) hx hb dX6_readBias_17 (by decide) ?_
  refine lv_aload_n hx hb dX6_readBias_19 rfl (lv_at hl 1 rfl) ?_
  refine r_getr 14 X hw sh_13 fd_6_0 rfl rfl lf_X6_14 dX6_readBias_20 ?_
  refine lv_iconst (v := mI 0) hx hb dX6_readBias_23 rfl ?_
  refine lv_bipush (v := mI 9) hx hb dX6_readBias_24 (by decide) ?_
  refine r_cvi (rest := [.int (mI 7), .int (mI r3), .ref (ad (σ4 13 2).toNat)]) [.int (mI 0), .int (mI 9)] X hw (fun ra σa h => c_X8_takeNumber l D cy ad bs F 0 9 σ4 ra σa  h) sh_14 rfl (by decide) rfl km_X8_takeNumber kv_X8_takeNumber lm_X6_108 dX6_readBias_26 hl.1 rfl rfl (Nat.le_of_ble_eq_true rfl) ⟨by decide, by decide⟩ ⟨Nat.zero_le _, Nat.zero_le _⟩ hf (fun r6 σ7 _ hf H locs hw => ?_)
  refine r_cvv (rest := []) [.int (mI r3), .int (mI 7), .int (mI r6)] X hw (fun ra σa h => c_X5_setStart l D cy ad bs F (σ4 13 2).toNat r3 7 r6 σ7 ra σa (mPlan_z hg5) h) (mPlan_z hg5).1 rfl (by decide) rfl km_X5_setStart kv_X5_setStart lm_X6_141 dX6_readBias_29 hl.1 rfl rfl (Nat.le_of_ble_eq_true rfl) ⟨by decide, by decide⟩ ⟨Nat.zero_le _, Nat.zero_le _⟩ hf (fun r8 σ9 _ hf H locs hw => ?_)
  exact r_vret X hw dX6_readBias_32 hf
def g_X6_takeNewName_b48 (F : Nat)  (σ : mMem) : mRs := mlet (σ 14 9) (fun y108 => mob (g_X8_next F σ) (fun r109 σ110 => some (y108, σ110)))
set_option maxRecDepth 100000 in
set_option maxHeartbeats 4000000 in
theorem w_X6_takeNewName_b48 {p : Program} {l : Launch} {e : Env} {s : State} {m : MethodId} {args : Array Value} {below : List Frame} {meth : Method} {c : Code} {D : va_G} {cy : Nat → ClassId} {ad : Nat → Nat} {bs : Nat} {F : Nat}  (X : mCx p m c cX6_takeNewName 2 s args RX6 meth D cy (some .int))  {r : Int} {σ' : mMem}    {σ : mMem} {H : Heap} {locs : List Loc} {ls : Array Slot} (hw : mWd D cy ad bs true mN σ s.heap H locs) (hl : lv_has ls 2 [(0, .ref (ad 13))]) (hf : g_X6_takeNewName_b48 F  σ = some (r, σ')) : mGi p l e 3 s m args below meth c D cy ad bs r σ' H locs (F0 m 48 ls []) := by
  obtain ⟨⟨hx, hb, -, -, -⟩, -⟩ := id X
  unfold g_X6_takeNewName_b48 at hf
  refine lv_aload_n hx hb dX6_takeNewName_48 rfl (lv_at hl 0 rfl) ?_
  refine r_getr 14 X hw sh_13 fd_6_0 rfl rfl lf_X6_14 dX6_takeNewName_49 ?_
  refine r_geti X hw sh_14 fd_8_9 rfl lf_X6_60 dX6_takeNewName_52 ?_
  refine r_leti hf (fun y108 hf => ?_)
  refine lv_istore_n (lv' := [(1, .int (mI y108)), (0, .ref (ad 13))]) hx hb dX6_takeNewName_55 rfl hl (by decide) rfl (fun ls hl => ?_)
  refine lv_aload_n hx hb dX6_takeNewName_56 rfl (lv_at hl 1 rfl) ?_
  refine r_getr 14 X hw sh_13 fd_6_0 rfl rfl lf_X6_14 dX6_takeNewName_57 ?_
  refine r_cvv (rest := []) [] X hw (fun ra σa h => c_X8_next l D cy ad bs F σ ra σa  h) sh_14 rfl (by decide) rfl km_X8_next kv_X8_next lm_X6_105 dX6_takeNewName_60 hl.1 rfl rfl (Nat.le_of_ble_eq_true rfl) ⟨by decide, by decide⟩ ⟨Nat.zero_le _, Nat.zero_le _⟩ hf (fun r109 σ110 _ hf H locs hw => ?_)
  refine lv_iload_n hx hb dX6_takeNewName_63 rfl (lv_at hl 0 rfl) ?_
  exact r_iret X hw dX6_takeNewName_64 hf
def g_X6_takeNewName (F : Nat) (σ : mMem) : mRs := if mw (σ 14 7) = mw 1 then (if σ 13 2 = 3 ∨ σ 13 2 = 8 then mob (g_X5_boxNamed F (σ 13 2).toNat (σ 14 9) σ) (fun r2 σ3 => if mw r2 = mw (-1) then (g_X6_takeNewName_b48 F σ3) else (mob (g_X8_refuseHere F 2 σ3) (fun r4 σ5 => g_X6_takeNewName_b48 F σ5))) else none) else (mob (g_X8_refuseHere F 1 σ) (fun r6 σ7 => g_X6_takeNewName_b48 F σ7))
set_option maxRecDepth 100000 in
set_option maxHeartbeats 4000000 in
theorem c_X6_takeNewName (l : Launch) (D : va_G) (cy : Nat → ClassId) (ad : Nat → Nat) (bs : Nat) (F : Nat)   (σ : mMem) (r : Int) (σ' : mMem)  (hf : g_X6_takeNewName F  σ = some (r, σ')) : mCi l D cy ad bs yX6_takeNewName cX6_takeNewName 2 (some .int) 3 [.ref (ad 13)] σ r σ' := by
  refine mCi.of (lv := [(0, .ref (ad 13))]) km_X6_takeNewName.2.2.2.2.2 (Nat.le_of_ble_eq_true rfl) rfl (fun p e s m args below meth c H locs ls X hw hl => ?_)
  obtain ⟨⟨hx, hb, -, -, -⟩, -⟩ := id X
  unfold g_X6_takeNewName at hf
  refine lv_aload_n hx hb dX6_takeNewName_0 rfl (lv_at hl 0 rfl) ?_
  refine r_getr 14 X hw sh_13 fd_6_0 rfl rfl lf_X6_14 dX6_takeNewName_1 ?_
  refine r_geti X hw sh_14 fd_8_7 rfl lf_X6_56 dX6_takeNewName_4 ?_
  refine lv_iconst (v := mI 1) hx hb dX6_takeNewName_7 rfl ?_
  refine r_icmp_eq (tgt := 22) X dX6_takeNewName_8 (by decide) hf (fun hc hf => ?_) (fun hc hf => ?_)
  · refine lv_aload_n hx hb dX6_takeNewName_22 rfl (lv_at hl 0 rfl) ?_
    refine r_getp X hw sh_13 fd_6_2 rfl lf_X6_29 dX6_takeNewName_23 hf (fun hg1 hf => ?_)
    refine lv_aload_n hx hb dX6_takeNewName_26 rfl (lv_at hl 0 rfl) ?_
    refine r_getr 14 X hw sh_13 fd_6_0 rfl rfl lf_X6_14 dX6_takeNewName_27 ?_
    refine r_geti X hw sh_14 fd_8_9 rfl lf_X6_60 dX6_takeNewName_30 ?_
    refine r_cvi (rest := []) [.int (mI (σ 14 9))] X hw (fun ra σa h => c_X5_boxNamed l D cy ad bs F (σ 13 2).toNat (σ 14 9) σ ra σa (mPlan_z hg1) h) (mPlan_z hg1).1 rfl (by decide) rfl km_X5_boxNamed kv_X5_boxNamed lm_X6_153 dX6_takeNewName_33 hl.1 rfl rfl (Nat.le_of_ble_eq_true rfl) ⟨by decide, by decide⟩ ⟨Nat.zero_le _, Nat.zero_le _⟩ hf (fun r2 σ3 _ hf H locs hw => ?_)
    refine lv_iconst (v := mI (-1)) hx hb dX6_takeNewName_36 rfl ?_
    refine r_icmp_eq (tgt := 48) X dX6_takeNewName_37 (by decide) hf (fun hc hf => ?_) (fun hc hf => ?_)
    · exact w_X6_takeNewName_b48 X hw (lv_sub hl [0] rfl) hf
    · refine lv_aload_n hx hb dX6_takeNewName_40 rfl (lv_at hl 0 rfl) ?_
      refine r_getr 14 X hw sh_13 fd_6_0 rfl rfl lf_X6_14 dX6_takeNewName_41 ?_
      refine lv_iconst (v := mI 2) hx hb dX6_takeNewName_44 rfl ?_
      refine r_cvv (rest := []) [.int (mI 2)] X hw (fun ra σa h => c_X8_refuseHere l D cy ad bs F 2 σ3 ra σa  h) sh_14 rfl (by decide) rfl km_X8_refuseHere kv_X8_refuseHere lm_X6_63 dX6_takeNewName_45 hl.1 rfl rfl (Nat.le_of_ble_eq_true rfl) ⟨by decide, by decide⟩ ⟨Nat.zero_le _, Nat.zero_le _⟩ hf (fun r4 σ5 _ hf H locs hw => ?_)
      exact w_X6_takeNewName_b48 X hw (lv_sub hl [0] rfl) hf
  · refine lv_aload_n hx hb dX6_takeNewName_11 rfl (lv_at hl 0 rfl) ?_
    refine r_getr 14 X hw sh_13 fd_6_0 rfl rfl lf_X6_14 dX6_takeNewName_12 ?_
    refine lv_iconst (v := mI 1) hx hb dX6_takeNewName_15 rfl ?_
    refine r_cvv (rest := []) [.int (mI 1)] X hw (fun ra σa h => c_X8_refuseHere l D cy ad bs F 1 σ ra σa  h) sh_14 rfl (by decide) rfl km_X8_refuseHere kv_X8_refuseHere lm_X6_63 dX6_takeNewName_16 hl.1 rfl rfl (Nat.le_of_ble_eq_true rfl) ⟨by decide, by decide⟩ ⟨Nat.zero_le _, Nat.zero_le _⟩ hf (fun r6 σ7 _ hf H locs hw => ?_)
    refine lv_goto (tgt := 48) hx hb dX6_takeNewName_19 (by decide) ?_
    exact w_X6_takeNewName_b48 X hw (lv_sub hl [0] rfl) hf
def g_X8_takeWord_b13 (F : Nat)  (σ : mMem) : mRs := mob (g_X8_next F σ) (fun r105 σ106 => some (0, σ106))
set_option maxRecDepth 100000 in
set_option maxHeartbeats 4000000 in
theorem w_X8_takeWord_b13 {p : Program} {l : Launch} {e : Env} {s : State} {m : MethodId} {args : Array Value} {below : List Frame} {meth : Method} {c : Code} {D : va_G} {cy : Nat → ClassId} {ad : Nat → Nat} {bs : Nat} {F : Nat}  (X : mCx p m c cX8_takeWord 2 s args RX8 meth D cy none)  {r : Int} {σ' : mMem}    {σ : mMem} {H : Heap} {locs : List Loc} {ls : Array Slot} (hw : mWd D cy ad bs true mN σ s.heap H locs) (hl : lv_has ls 2 [(0, .ref (ad 14))]) (hf : g_X8_takeWord_b13 F  σ = some (r, σ')) : mGv p l e 3 s m args below meth c D cy ad bs σ' H locs (F0 m 13 ls []) := by
  obtain ⟨⟨hx, hb, -, -, -⟩, -⟩ := id X
  unfold g_X8_takeWord_b13 at hf
  refine lv_aload_n hx hb dX8_takeWord_13 rfl (lv_at hl 0 rfl) ?_
  refine r_cvv (rest := []) [] X hw (fun ra σa h => c_X8_next l D cy ad bs F σ ra σa  h) sh_14 rfl (by decide) rfl km_X8_next kv_X8_next lm_X8_71 dX8_takeWord_14 hl.1 rfl rfl (Nat.le_of_ble_eq_true rfl) ⟨by decide, by decide⟩ ⟨Nat.zero_le _, Nat.zero_le _⟩ hf (fun r105 σ106 _ hf H locs hw => ?_)
  exact r_vret X hw dX8_takeWord_17 hf
def g_X8_takeWord (F : Nat) (x1 : Int) (σ : mMem) : mRs := mob (g_X8_isWord F x1 σ) (fun r1 σ2 => if ¬ mw r1 = 0 then (g_X8_takeWord_b13 F σ2) else (mob (g_X8_refuseHere F 1 σ2) (fun r3 σ4 => g_X8_takeWord_b13 F σ4)))
set_option maxRecDepth 100000 in
set_option maxHeartbeats 4000000 in
theorem c_X8_takeWord (l : Launch) (D : va_G) (cy : Nat → ClassId) (ad : Nat → Nat) (bs : Nat) (F : Nat)  (x1 : Int) (σ : mMem) (r : Int) (σ' : mMem)  (hf : g_X8_takeWord F x1 σ = some (r, σ')) : mCv l D cy ad bs yX8_takeWord cX8_takeWord 2 none 3 [.ref (ad 14), .int (mI x1)] σ σ' := by
  refine mCv.of (lv := [(0, .ref (ad 14)), (1, .int (mI x1))]) km_X8_takeWord.2.2.2.2.2 (Nat.le_of_ble_eq_true rfl) rfl (fun p e s m args below meth c H locs ls X hw hl => ?_)
  obtain ⟨⟨hx, hb, -, -, -⟩, -⟩ := id X
  unfold g_X8_takeWord at hf
  refine lv_aload_n hx hb dX8_takeWord_0 rfl (lv_at hl 0 rfl) ?_
  refine lv_iload_n hx hb dX8_takeWord_1 rfl (lv_at hl 1 rfl) ?_
  refine r_cvi (rest := []) [.int (mI x1)] X hw (fun ra σa h => c_X8_isWord l D cy ad bs F x1 σ ra σa  h) sh_14 rfl (by decide) rfl km_X8_isWord kv_X8_isWord lm_X8_117 dX8_takeWord_2 hl.1 rfl rfl (Nat.le_of_ble_eq_true rfl) ⟨by decide, by decide⟩ ⟨Nat.zero_le _, Nat.zero_le _⟩ hf (fun r1 σ2 _ hf H locs hw => ?_)
  refine r_if_ne (tgt := 13) X dX8_takeWord_5 (by decide) hf (fun hc hf => ?_) (fun hc hf => ?_)
  · exact w_X8_takeWord_b13 X hw (lv_sub hl [0] rfl) hf
  · refine lv_aload_n hx hb dX8_takeWord_8 rfl (lv_at hl 0 rfl) ?_
    refine lv_iconst (v := mI 1) hx hb dX8_takeWord_9 rfl ?_
    refine r_cvv (rest := []) [.int (mI 1)] X hw (fun ra σa h => c_X8_refuseHere l D cy ad bs F 1 σ2 ra σa  h) sh_14 rfl (by decide) rfl km_X8_refuseHere kv_X8_refuseHere lm_X8_110 dX8_takeWord_10 hl.1 rfl rfl (Nat.le_of_ble_eq_true rfl) ⟨by decide, by decide⟩ ⟨Nat.zero_le _, Nat.zero_le _⟩ hf (fun r3 σ4 _ hf H locs hw => ?_)
    exact w_X8_takeWord_b13 X hw (lv_sub hl [0] rfl) hf
def g_X6_readBox_b76 (F : Nat)  (x1 x2 : Int) (σ : mMem) : mRs := if σ 13 2 = 3 ∨ σ 13 2 = 8 then mob (g_X8_takeNumber F 0 ((σ (σ 13 2).toNat 10) - 1) σ) (fun r116 σ117 => mob (g_X8_takeWord F 5 σ117) (fun r118 σ119 => if σ119 13 2 = 3 ∨ σ119 13 2 = 8 then mob (g_X8_takeNumber F 0 3 σ119) (fun r121 σ122 => mob (g_X5_addBox F (σ119 13 2).toNat x1 x2 r116 r121 σ122) (fun r123 σ124 => some (0, σ124))) else none)) else none
set_option maxRecDepth 100000 in
set_option maxHeartbeats 4000000 in
theorem w_X6_readBox_b76 {p : Program} {l : Launch} {e : Env} {s : State} {m : MethodId} {args : Array Value} {below : List Frame} {meth : Method} {c : Code} {D : va_G} {cy : Nat → ClassId} {ad : Nat → Nat} {bs : Nat} {F : Nat}  (X : mCx p m c cX6_readBox 4 s args RX6 meth D cy none)  {r : Int} {σ' : mMem}   {x1 x2 : Int} {σ : mMem} {H : Heap} {locs : List Loc} {ls : Array Slot} (hw : mWd D cy ad bs true mN σ s.heap H locs) (hl : lv_has ls 4 [(0, .ref (ad 13)), (1, .int (mI x1)), (2, .int (mI x2))]) (hf : g_X6_readBox_b76 F x1 x2 σ = some (r, σ')) : mGv p l e 4 s m args below meth c D cy ad bs σ' H locs (F0 m 76 ls []) := by
  obtain ⟨⟨hx, hb, -, -, -⟩, -⟩ := id X
  unfold g_X6_readBox_b76 at hf
  refine lv_aload_n hx hb dX6_readBox_76 rfl (lv_at hl 0 rfl) ?_
  refine r_getr 14 X hw sh_13 fd_6_0 rfl rfl lf_X6_14 dX6_readBox_77 ?_
  refine lv_iconst (v := mI 0) hx hb dX6_readBox_80 rfl ?_
  refine lv_aload_n hx hb dX6_readBox_81 rfl (lv_at hl 0 rfl) ?_
  refine r_getp X hw sh_13 fd_6_2 rfl lf_X6_29 dX6_readBox_82 hf (fun hg115 hf => ?_)
  refine r_geti X hw (mPlan_z hg115).1 fd_5_10 rfl lf_X6_118 dX6_readBox_85 ?_
  refine lv_iconst (v := mI 1) hx hb dX6_readBox_88 rfl ?_
  refine r_isub X dX6_readBox_89 ?_
  refine r_cvi (rest := []) [.int (mI 0), .int (mI ((σ (σ 13 2).toNat 10) - 1))] X hw (fun ra σa h => c_X8_takeNumber l D cy ad bs F 0 ((σ (σ 13 2).toNat 10) - 1) σ ra σa  h) sh_14 rfl (by decide) rfl km_X8_takeNumber kv_X8_takeNumber lm_X6_108 dX6_readBox_90 hl.1 rfl rfl (Nat.le_of_ble_eq_true rfl) ⟨by decide, by decide⟩ ⟨Nat.zero_le _, Nat.zero_le _⟩ hf (fun r116 σ117 _ hf H locs hw => ?_)
  refine lv_istore_n (lv' := [(3, .int (mI r116)), (0, .ref (ad 13)), (1, .int (mI x1)), (2, .int (mI x2))]) hx hb dX6_readBox_93 rfl hl (by decide) rfl (fun ls hl => ?_)
  refine lv_aload_n hx hb dX6_readBox_94 rfl (lv_at hl 1 rfl) ?_
  refine r_getr 14 X hw sh_13 fd_6_0 rfl rfl lf_X6_14 dX6_readBox_95 ?_
  refine lv_iconst (v := mI 5) hx hb dX6_readBox_98 rfl ?_
  refine r_cvv (rest := []) [.int (mI 5)] X hw (fun ra σa h => c_X8_takeWord l D cy ad bs F 5 σ117 ra σa  h) sh_14 rfl (by decide) rfl km_X8_takeWord kv_X8_takeWord lm_X6_115 dX6_readBox_99 hl.1 rfl rfl (Nat.le_of_ble_eq_true rfl) ⟨by decide, by decide⟩ ⟨Nat.zero_le _, Nat.zero_le _⟩ hf (fun r118 σ119 _ hf H locs hw => ?_)
  refine lv_aload_n hx hb dX6_readBox_102 rfl (lv_at hl 1 rfl) ?_
  refine r_getp X hw sh_13 fd_6_2 rfl lf_X6_29 dX6_readBox_103 hf (fun hg120 hf => ?_)
  refine lv_iload_n hx hb dX6_readBox_106 rfl (lv_at hl 2 rfl) ?_
  refine lv_iload_n hx hb dX6_readBox_107 rfl (lv_at hl 3 rfl) ?_
  refine lv_iload_n hx hb dX6_readBox_108 rfl (lv_at hl 0 rfl) ?_
  refine lv_aload_n hx hb dX6_readBox_109 rfl (lv_at hl 1 rfl) ?_
  refine r_getr 14 X hw sh_13 fd_6_0 rfl rfl lf_X6_14 dX6_readBox_110 ?_
  refine lv_iconst (v := mI 0) hx hb dX6_readBox_113 rfl ?_
  refine lv_iconst (v := mI 3) hx hb dX6_readBox_114 rfl ?_
  refine r_cvi (rest := [.int (mI r116), .int (mI x2), .int (mI x1), .ref (ad (σ119 13 2).toNat)]) [.int (mI 0), .int (mI 3)] X hw (fun ra σa h => c_X8_takeNumber l D cy ad bs F 0 3 σ119 ra σa  h) sh_14 rfl (by decide) rfl km_X8_takeNumber kv_X8_takeNumber lm_X6_108 dX6_readBox_115 hl.1 rfl rfl (Nat.le_of_ble_eq_true rfl) ⟨by decide, by decide⟩ ⟨Nat.zero_le _, Nat.zero_le _⟩ hf (fun r121 σ122 _ hf H locs hw => ?_)
  refine r_cvv (rest := []) [.int (mI x1), .int (mI x2), .int (mI r116), .int (mI r121)] X hw (fun ra σa h => c_X5_addBox l D cy ad bs F (σ119 13 2).toNat x1 x2 r116 r121 σ122 ra σa (mPlan_z hg120) h) (mPlan_z hg120).1 rfl (by decide) rfl km_X5_addBox kv_X5_addBox lm_X6_132 dX6_readBox_118 hl.1 rfl rfl (Nat.le_of_ble_eq_true rfl) ⟨by decide, by decide⟩ ⟨Nat.zero_le _, Nat.zero_le _⟩ hf (fun r123 σ124 _ hf H locs hw => ?_)
  exact r_vret X hw dX6_readBox_121 hf
def g_X6_readBox (F : Nat) (σ : mMem) : mRs := mob (g_X8_next F σ) (fun r1 σ2 => mob (g_X6_takeNewName F σ2) (fun r3 σ4 => mob (g_X8_takeWord F 4 σ4) (fun r5 σ6 => if σ6 13 2 = 3 ∨ σ6 13 2 = 8 then mob (g_X8_takeNumber F 0 ((σ6 (σ6 13 2).toNat 9) - 1) σ6) (fun r8 σ9 => if ¬ mw (σ9 14 7) = mw 3 then (g_X6_readBox_b76 F r3 r8 σ9) else (if σ9 13 2 = 3 ∨ σ9 13 2 = 8 then mob (g_X5_boxStartingOn F (σ9 13 2).toNat r8 (σ9 14 9) σ9) (fun r11 σ12 => if mw r11 = mw (-1) then (g_X6_readBox_b76 F r3 r8 σ12) else (mob (g_X8_refuseHere F 4 σ12) (fun r13 σ14 => g_X6_readBox_b76 F r3 r8 σ14))) else none)) else none)))
set_option maxRecDepth 100000 in
set_option maxHeartbeats 4000000 in
theorem c_X6_readBox (l : Launch) (D : va_G) (cy : Nat → ClassId) (ad : Nat → Nat) (bs : Nat) (F : Nat)   (σ : mMem) (r : Int) (σ' : mMem)  (hf : g_X6_readBox F  σ = some (r, σ')) : mCv l D cy ad bs yX6_readBox cX6_readBox 4 none 4 [.ref (ad 13)] σ σ' := by
  refine mCv.of (lv := [(0, .ref (ad 13))]) km_X6_readBox.2.2.2.2.2 (Nat.le_of_ble_eq_true rfl) rfl (fun p e s m args below meth c H locs ls X hw hl => ?_)
  obtain ⟨⟨hx, hb, -, -, -⟩, -⟩ := id X
  unfold g_X6_readBox at hf
  refine lv_aload_n hx hb dX6_readBox_0 rfl (lv_at hl 0 rfl) ?_
  refine r_getr 14 X hw sh_13 fd_6_0 rfl rfl lf_X6_14 dX6_readBox_1 ?_
  refine r_cvv (rest := []) [] X hw (fun ra σa h => c_X8_next l D cy ad bs F σ ra σa  h) sh_14 rfl (by decide) rfl km_X8_next kv_X8_next lm_X6_105 dX6_readBox_4 hl.1 rfl rfl (Nat.le_of_ble_eq_true rfl) ⟨by decide, by decide⟩ ⟨Nat.zero_le _, Nat.zero_le _⟩ hf (fun r1 σ2 _ hf H locs hw => ?_)
  refine lv_aload_n hx hb dX6_readBox_7 rfl (lv_at hl 0 rfl) ?_
  refine r_cvi (rest := []) [] X hw (fun ra σa h => c_X6_takeNewName l D cy ad bs F σ2 ra σa  h) sh_13 rfl (by decide) rfl km_X6_takeNewName kv_X6_takeNewName lm_X6_125 dX6_readBox_8 hl.1 rfl rfl (Nat.le_of_ble_eq_true rfl) ⟨by decide, by decide⟩ ⟨Nat.zero_le _, Nat.zero_le _⟩ hf (fun r3 σ4 _ hf H locs hw => ?_)
  refine lv_istore_n (lv' := [(1, .int (mI r3)), (0, .ref (ad 13))]) hx hb dX6_readBox_11 rfl hl (by decide) rfl (fun ls hl => ?_)
  refine lv_aload_n hx hb dX6_readBox_12 rfl (lv_at hl 1 rfl) ?_
  refine r_getr 14 X hw sh_13 fd_6_0 rfl rfl lf_X6_14 dX6_readBox_13 ?_
  refine lv_iconst (v := mI 4) hx hb dX6_readBox_16 rfl ?_
  refine r_cvv (rest := []) [.int (mI 4)] X hw (fun ra σa h => c_X8_takeWord l D cy ad bs F 4 σ4 ra σa  h) sh_14 rfl (by decide) rfl km_X8_takeWord kv_X8_takeWord lm_X6_115 dX6_readBox_17 hl.1 rfl rfl (Nat.le_of_ble_eq_true rfl) ⟨by decide, by decide⟩ ⟨Nat.zero_le _, Nat.zero_le _⟩ hf (fun r5 σ6 _ hf H locs hw => ?_)
  refine lv_aload_n hx hb dX6_readBox_20 rfl (lv_at hl 1 rfl) ?_
  refine r_getr 14 X hw sh_13 fd_6_0 rfl rfl lf_X6_14 dX6_readBox_21 ?_
  refine lv_iconst (v := mI 0) hx hb dX6_readBox_24 rfl ?_
  refine lv_aload_n hx hb dX6_readBox_25 rfl (lv_at hl 1 rfl) ?_
  refine r_getp X hw sh_13 fd_6_2 rfl lf_X6_29 dX6_readBox_26 hf (fun hg7 hf => ?_)
  refine r_geti X hw (mPlan_z hg7).1 fd_5_9 rfl lf_X6_112 dX6_readBox_29 ?_
  refine lv_iconst (v := mI 1) hx hb dX6_readBox_32 rfl ?_
  refine r_isub X dX6_readBox_33 ?_
  refine r_cvi (rest := []) [.int (mI 0), .int (mI ((σ6 (σ6 13 2).toNat 9) - 1))] X hw (fun ra σa h => c_X8_takeNumber l D cy ad bs F 0 ((σ6 (σ6 13 2).toNat 9) - 1) σ6 ra σa  h) sh_14 rfl (by decide) rfl km_X8_takeNumber kv_X8_takeNumber lm_X6_108 dX6_readBox_34 hl.1 rfl rfl (Nat.le_of_ble_eq_true rfl) ⟨by decide, by decide⟩ ⟨Nat.zero_le _, Nat.zero_le _⟩ hf (fun r8 σ9 _ hf H locs hw => ?_)
  refine lv_istore_n (lv' := [(2, .int (mI r8)), (1, .int (mI r3)), (0, .ref (ad 13))]) hx hb dX6_readBox_37 rfl hl (by decide) rfl (fun ls hl => ?_)
  refine lv_aload_n hx hb dX6_readBox_38 rfl (lv_at hl 2 rfl) ?_
  refine r_getr 14 X hw sh_13 fd_6_0 rfl rfl lf_X6_14 dX6_readBox_39 ?_
  refine r_geti X hw sh_14 fd_8_7 rfl lf_X6_56 dX6_readBox_42 ?_
  refine lv_iconst (v := mI 3) hx hb dX6_readBox_45 rfl ?_
  refine r_icmp_ne (tgt := 76) X dX6_readBox_46 (by decide) hf (fun hc hf => ?_) (fun hc hf => ?_)
  · exact w_X6_readBox_b76 X hw (lv_sub hl [2, 1, 0] rfl) hf
  · refine lv_aload_n hx hb dX6_readBox_49 rfl (lv_at hl 2 rfl) ?_
    refine r_getp X hw sh_13 fd_6_2 rfl lf_X6_29 dX6_readBox_50 hf (fun hg10 hf => ?_)
    refine lv_iload_n hx hb dX6_readBox_53 rfl (lv_at hl 0 rfl) ?_
    refine lv_aload_n hx hb dX6_readBox_54 rfl (lv_at hl 2 rfl) ?_
    refine r_getr 14 X hw sh_13 fd_6_0 rfl rfl lf_X6_14 dX6_readBox_55 ?_
    refine r_geti X hw sh_14 fd_8_9 rfl lf_X6_60 dX6_readBox_58 ?_
    refine r_cvi (rest := []) [.int (mI r8), .int (mI (σ9 14 9))] X hw (fun ra σa h => c_X5_boxStartingOn l D cy ad bs F (σ9 13 2).toNat r8 (σ9 14 9) σ9 ra σa (mPlan_z hg10) h) (mPlan_z hg10).1 rfl (by decide) rfl km_X5_boxStartingOn kv_X5_boxStartingOn lm_X6_129 dX6_readBox_61 hl.1 rfl rfl (Nat.le_of_ble_eq_true rfl) ⟨by decide, by decide⟩ ⟨Nat.zero_le _, Nat.zero_le _⟩ hf (fun r11 σ12 _ hf H locs hw => ?_)
    refine lv_iconst (v := mI (-1)) hx hb dX6_readBox_64 rfl ?_
    refine r_icmp_eq (tgt := 76) X dX6_readBox_65 (by decide) hf (fun hc hf => ?_) (fun hc hf => ?_)
    · exact w_X6_readBox_b76 X hw (lv_sub hl [2, 1, 0] rfl) hf
    · refine lv_aload_n hx hb dX6_readBox_68 rfl (lv_at hl 2 rfl) ?_
      refine r_getr 14 X hw sh_13 fd_6_0 rfl rfl lf_X6_14 dX6_readBox_69 ?_
      refine lv_iconst (v := mI 4) hx hb dX6_readBox_72 rfl ?_
      refine r_cvv (rest := []) [.int (mI 4)] X hw (fun ra σa h => c_X8_refuseHere l D cy ad bs F 4 σ12 ra σa  h) sh_14 rfl (by decide) rfl km_X8_refuseHere kv_X8_refuseHere lm_X6_63 dX6_readBox_73 hl.1 rfl rfl (Nat.le_of_ble_eq_true rfl) ⟨by decide, by decide⟩ ⟨Nat.zero_le _, Nat.zero_le _⟩ hf (fun r13 σ14 _ hf H locs hw => ?_)
      exact w_X6_readBox_b76 X hw (lv_sub hl [2, 1, 0] rfl) hf
def g_X6_readEyes (F : Nat) (σ : mMem) : mRs := mob (g_X8_next F σ) (fun r1 σ2 => mob (g_X6_takeBoxName F σ2) (fun r3 σ4 => mob (g_X8_takeWord F 7 σ4) (fun r5 σ6 => if σ6 13 2 = 3 ∨ σ6 13 2 = 8 then mob (g_X8_takeNumber F 0 2 σ6) (fun r8 σ9 => mob (g_X5_setStart F (σ6 13 2).toNat r3 5 r8 σ9) (fun r10 σ11 => mob (g_X8_takeWord F 8 σ11) (fun r12 σ13 => if σ13 13 2 = 3 ∨ σ13 13 2 = 8 then mob (g_X8_takeNumber F 0 3 σ13) (fun r15 σ16 => mob (g_X5_setStart F (σ13 13 2).toNat r3 6 r15 σ16) (fun r17 σ18 => some (0, σ18))) else none))) else none)))
set_option maxRecDepth 100000 in
set_option maxHeartbeats 4000000 in
theorem c_X6_readEyes (l : Launch) (D : va_G) (cy : Nat → ClassId) (ad : Nat → Nat) (bs : Nat) (F : Nat)   (σ : mMem) (r : Int) (σ' : mMem)  (hf : g_X6_readEyes F  σ = some (r, σ')) : mCv l D cy ad bs yX6_readEyes cX6_readEyes 2 none 4 [.ref (ad 13)] σ σ' := by
  refine mCv.of (lv := [(0, .ref (ad 13))]) km_X6_readEyes.2.2.2.2.2 (Nat.le_of_ble_eq_true rfl) rfl (fun p e s m args below meth c H locs ls X hw hl => ?_)
  obtain ⟨⟨hx, hb, -, -, -⟩, -⟩ := id X
  unfold g_X6_readEyes at hf
  refine lv_aload_n hx hb dX6_readEyes_0 rfl (lv_at hl 0 rfl) ?_
  refine r_getr 14 X hw sh_13 fd_6_0 rfl rfl lf_X6_14 dX6_readEyes_1 ?_
  refine r_cvv (rest := []) [] X hw (fun ra σa h => c_X8_next l D cy ad bs F σ ra σa  h) sh_14 rfl (by decide) rfl km_X8_next kv_X8_next lm_X6_105 dX6_readEyes_4 hl.1 rfl rfl (Nat.le_of_ble_eq_true rfl) ⟨by decide, by decide⟩ ⟨Nat.zero_le _, Nat.zero_le _⟩ hf (fun r1 σ2 _ hf H locs hw => ?_)
  refine lv_aload_n hx hb dX6_readEyes_7 rfl (lv_at hl 0 rfl) ?_
  refine r_cvi (rest := []) [] X hw (fun ra σa h => c_X6_takeBoxName l D cy ad bs F σ2 ra σa  h) sh_13 rfl (by decide) rfl km_X6_takeBoxName kv_X6_takeBoxName lm_X6_136 dX6_readEyes_8 hl.1 rfl rfl (Nat.le_of_ble_eq_true rfl) ⟨by decide, by decide⟩ ⟨Nat.zero_le _, Nat.zero_le _⟩ hf (fun r3 σ4 _ hf H locs hw => ?_)
  refine lv_istore_n (lv' := [(1, .int (mI r3)), (0, .ref (ad 13))]) hx hb dX6_readEyes_11 rfl hl (by decide) rfl (fun ls hl => ?_)
  refine lv_aload_n hx hb dX6_readEyes_12 rfl (lv_at hl 1 rfl) ?_
  refine r_getr 14 X hw sh_13 fd_6_0 rfl rfl lf_X6_14 dX6_readEyes_13 ?_
  refine lv_bipush (v := mI 7) hx hb dX6_readEyes_16 (by decide) ?_
  refine r_cvv (rest := []) [.int (mI 7)] X hw (fun ra σa h => c_X8_takeWord l D cy ad bs F 7 σ4 ra σa  h) sh_14 rfl (by decide) rfl km_X8_takeWord kv_X8_takeWord lm_X6_115 dX6_readEyes_18 hl.1 rfl rfl (Nat.le_of_ble_eq_true rfl) ⟨by decide, by decide⟩ ⟨Nat.zero_le _, Nat.zero_le _⟩ hf (fun r5 σ6 _ hf H locs hw => ?_)
  refine lv_aload_n hx hb dX6_readEyes_21 rfl (lv_at hl 1 rfl) ?_
  refine r_getp X hw sh_13 fd_6_2 rfl lf_X6_29 dX6_readEyes_22 hf (fun hg7 hf => ?_)
  refine lv_iload_n hx hb dX6_readEyes_25 rfl (lv_at hl 0 rfl) ?_
  refine lv_iconst (v := mI 5) hx hb dX6_readEyes_26 rfl ?_
  refine lv_aload_n hx hb dX6_readEyes_27 rfl (lv_at hl 1 rfl) ?_
  refine r_getr 14 X hw sh_13 fd_6_0 rfl rfl lf_X6_14 dX6_readEyes_28 ?_
  refine lv_iconst (v := mI 0) hx hb dX6_readEyes_31 rfl ?_
  refine lv_iconst (v := mI 2) hx hb dX6_readEyes_32 rfl ?_
  refine r_cvi (rest := [.int (mI 5), .int (mI r3), .ref (ad (σ6 13 2).toNat)]) [.int (mI 0), .int (mI 2)] X hw (fun ra σa h => c_X8_takeNumber l D cy ad bs F 0 2 σ6 ra σa  h) sh_14 rfl (by decide) rfl km_X8_takeNumber kv_X8_takeNumber lm_X6_108 dX6_readEyes_33 hl.1 rfl rfl (Nat.le_of_ble_eq_true rfl) ⟨by decide, by decide⟩ ⟨Nat.zero_le _, Nat.zero_le _⟩ hf (fun r8 σ9 _ hf H locs hw => ?_)
  refine r_cvv (rest := []) [.int (mI r3), .int (mI 5), .int (mI r8)] X hw (fun ra σa h => c_X5_setStart l D cy ad bs F (σ6 13 2).toNat r3 5 r8 σ9 ra σa (mPlan_z hg7) h) (mPlan_z hg7).1 rfl (by decide) rfl km_X5_setStart kv_X5_setStart lm_X6_141 dX6_readEyes_36 hl.1 rfl rfl (Nat.le_of_ble_eq_true rfl) ⟨by decide, by decide⟩ ⟨Nat.zero_le _, Nat.zero_le _⟩ hf (fun r10 σ11 _ hf H locs hw => ?_)
  refine lv_aload_n hx hb dX6_readEyes_39 rfl (lv_at hl 1 rfl) ?_
  refine r_getr 14 X hw sh_13 fd_6_0 rfl rfl lf_X6_14 dX6_readEyes_40 ?_
  refine lv_bipush (v := mI 8) hx hb dX6_readEyes_43 (by decide) ?_
  refine r_cvv (rest := []) [.int (mI 8)] X hw (fun ra σa h => c_X8_takeWord l D cy ad bs F 8 σ11 ra σa  h) sh_14 rfl (by decide) rfl km_X8_takeWord kv_X8_takeWord lm_X6_115 dX6_readEyes_45 hl.1 rfl rfl (Nat.le_of_ble_eq_true rfl) ⟨by decide, by decide⟩ ⟨Nat.zero_le _, Nat.zero_le _⟩ hf (fun r12 σ13 _ hf H locs hw => ?_)
  refine lv_aload_n hx hb dX6_readEyes_48 rfl (lv_at hl 1 rfl) ?_
  refine r_getp X hw sh_13 fd_6_2 rfl lf_X6_29 dX6_readEyes_49 hf (fun hg14 hf => ?_)
  refine lv_iload_n hx hb dX6_readEyes_52 rfl (lv_at hl 0 rfl) ?_
  refine lv_bipush (v := mI 6) hx hb dX6_readEyes_53 (by decide) ?_
  refine lv_aload_n hx hb dX6_readEyes_55 rfl (lv_at hl 1 rfl) ?_
  refine r_getr 14 X hw sh_13 fd_6_0 rfl rfl lf_X6_14 dX6_readEyes_56 ?_
  refine lv_iconst (v := mI 0) hx hb dX6_readEyes_59 rfl ?_
  refine lv_iconst (v := mI 3) hx hb dX6_readEyes_60 rfl ?_
  refine r_cvi (rest := [.int (mI 6), .int (mI r3), .ref (ad (σ13 13 2).toNat)]) [.int (mI 0), .int (mI 3)] X hw (fun ra σa h => c_X8_takeNumber l D cy ad bs F 0 3 σ13 ra σa  h) sh_14 rfl (by decide) rfl km_X8_takeNumber kv_X8_takeNumber lm_X6_108 dX6_readEyes_61 hl.1 rfl rfl (Nat.le_of_ble_eq_true rfl) ⟨by decide, by decide⟩ ⟨Nat.zero_le _, Nat.zero_le _⟩ hf (fun r15 σ16 _ hf H locs hw => ?_)
  refine r_cvv (rest := []) [.int (mI r3), .int (mI 6), .int (mI r15)] X hw (fun ra σa h => c_X5_setStart l D cy ad bs F (σ13 13 2).toNat r3 6 r15 σ16 ra σa (mPlan_z hg14) h) (mPlan_z hg14).1 rfl (by decide) rfl km_X5_setStart kv_X5_setStart lm_X6_141 dX6_readEyes_64 hl.1 rfl rfl (Nat.le_of_ble_eq_true rfl) ⟨by decide, by decide⟩ ⟨Nat.zero_le _, Nat.zero_le _⟩ hf (fun r17 σ18 _ hf H locs hw => ?_)
  exact r_vret X hw dX6_readEyes_67 hf
def g_X6_readFloor (F : Nat) (σ : mMem) : mRs := mob (g_X8_next F σ) (fun r1 σ2 => if σ2 13 2 = 3 ∨ σ2 13 2 = 8 then mob (g_X8_takeNumber F 2 9 σ2) (fun r4 σ5 => mlm (mup σ5 (σ2 13 2).toNat 9 r4) (fun σ6 => mob (g_X8_takeWord F 1 σ6) (fun r7 σ8 => if σ8 13 2 = 3 ∨ σ8 13 2 = 8 then mob (g_X8_takeNumber F 2 9 σ8) (fun r10 σ11 => mlm (mup σ11 (σ8 13 2).toNat 10 r10) (fun σ12 => some (0, σ12))) else none))) else none)
set_option maxRecDepth 100000 in
set_option maxHeartbeats 4000000 in
theorem c_X6_readFloor (l : Launch) (D : va_G) (cy : Nat → ClassId) (ad : Nat → Nat) (bs : Nat) (F : Nat)   (σ : mMem) (r : Int) (σ' : mMem)  (hf : g_X6_readFloor F  σ = some (r, σ')) : mCv l D cy ad bs yX6_readFloor cX6_readFloor 1 none 4 [.ref (ad 13)] σ σ' := by
  refine mCv.of (lv := [(0, .ref (ad 13))]) km_X6_readFloor.2.2.2.2.2 (Nat.le_of_ble_eq_true rfl) rfl (fun p e s m args below meth c H locs ls X hw hl => ?_)
  obtain ⟨⟨hx, hb, -, -, -⟩, -⟩ := id X
  unfold g_X6_readFloor at hf
  refine lv_aload_n hx hb dX6_readFloor_0 rfl (lv_at hl 0 rfl) ?_
  refine r_getr 14 X hw sh_13 fd_6_0 rfl rfl lf_X6_14 dX6_readFloor_1 ?_
  refine r_cvv (rest := []) [] X hw (fun ra σa h => c_X8_next l D cy ad bs F σ ra σa  h) sh_14 rfl (by decide) rfl km_X8_next kv_X8_next lm_X6_105 dX6_readFloor_4 hl.1 rfl rfl (Nat.le_of_ble_eq_true rfl) ⟨by decide, by decide⟩ ⟨Nat.zero_le _, Nat.zero_le _⟩ hf (fun r1 σ2 _ hf H locs hw => ?_)
  refine lv_aload_n hx hb dX6_readFloor_7 rfl (lv_at hl 0 rfl) ?_
  refine r_getp X hw sh_13 fd_6_2 rfl lf_X6_29 dX6_readFloor_8 hf (fun hg3 hf => ?_)
  refine lv_aload_n hx hb dX6_readFloor_11 rfl (lv_at hl 0 rfl) ?_
  refine r_getr 14 X hw sh_13 fd_6_0 rfl rfl lf_X6_14 dX6_readFloor_12 ?_
  refine lv_iconst (v := mI 2) hx hb dX6_readFloor_15 rfl ?_
  refine lv_bipush (v := mI 9) hx hb dX6_readFloor_16 (by decide) ?_
  refine r_cvi (rest := [.ref (ad (σ2 13 2).toNat)]) [.int (mI 2), .int (mI 9)] X hw (fun ra σa h => c_X8_takeNumber l D cy ad bs F 2 9 σ2 ra σa  h) sh_14 rfl (by decide) rfl km_X8_takeNumber kv_X8_takeNumber lm_X6_108 dX6_readFloor_18 hl.1 rfl rfl (Nat.le_of_ble_eq_true rfl) ⟨by decide, by decide⟩ ⟨Nat.zero_le _, Nat.zero_le _⟩ hf (fun r4 σ5 _ hf H locs hw => ?_)
  refine r_puti X hw (mPlan_z hg3).1 fd_5_9 fp_5_9 rfl rfl lf_X6_112 dX6_readFloor_21 (fun H locs hw => ?_)
  refine r_mem hf hw (fun σ6 hw hf => ?_)
  refine lv_aload_n hx hb dX6_readFloor_24 rfl (lv_at hl 0 rfl) ?_
  refine r_getr 14 X hw sh_13 fd_6_0 rfl rfl lf_X6_14 dX6_readFloor_25 ?_
  refine lv_iconst (v := mI 1) hx hb dX6_readFloor_28 rfl ?_
  refine r_cvv (rest := []) [.int (mI 1)] X hw (fun ra σa h => c_X8_takeWord l D cy ad bs F 1 σ6 ra σa  h) sh_14 rfl (by decide) rfl km_X8_takeWord kv_X8_takeWord lm_X6_115 dX6_readFloor_29 hl.1 rfl rfl (Nat.le_of_ble_eq_true rfl) ⟨by decide, by decide⟩ ⟨Nat.zero_le _, Nat.zero_le _⟩ hf (fun r7 σ8 _ hf H locs hw => ?_)
  refine lv_aload_n hx hb dX6_readFloor_32 rfl (lv_at hl 0 rfl) ?_
  refine r_getp X hw sh_13 fd_6_2 rfl lf_X6_29 dX6_readFloor_33 hf (fun hg9 hf => ?_)
  refine lv_aload_n hx hb dX6_readFloor_36 rfl (lv_at hl 0 rfl) ?_
  refine r_getr 14 X hw sh_13 fd_6_0 rfl rfl lf_X6_14 dX6_readFloor_37 ?_
  refine lv_iconst (v := mI 2) hx hb dX6_readFloor_40 rfl ?_
  refine lv_bipush (v := mI 9) hx hb dX6_readFloor_41 (by decide) ?_
  refine r_cvi (rest := [.ref (ad (σ8 13 2).toNat)]) [.int (mI 2), .int (mI 9)] X hw (fun ra σa h => c_X8_takeNumber l D cy ad bs F 2 9 σ8 ra σa  h) sh_14 rfl (by decide) rfl km_X8_takeNumber kv_X8_takeNumber lm_X6_108 dX6_readFloor_43 hl.1 rfl rfl (Nat.le_of_ble_eq_true rfl) ⟨by decide, by decide⟩ ⟨Nat.zero_le _, Nat.zero_le _⟩ hf (fun r10 σ11 _ hf H locs hw => ?_)
  refine r_puti X hw (mPlan_z hg9).1 fd_5_10 fp_5_10 rfl rfl lf_X6_118 dX6_readFloor_46 (fun H locs hw => ?_)
  refine r_mem hf hw (fun σ12 hw hf => ?_)
  exact r_vret X hw dX6_readFloor_49 hf
def g_X6_readGrey (F : Nat) (σ : mMem) : mRs := mob (g_X8_next F σ) (fun r1 σ2 => if σ2 13 2 = 3 ∨ σ2 13 2 = 8 then mob (g_X8_takeNumber F 0 ((σ2 (σ2 13 2).toNat 9) - 1) σ2) (fun r4 σ5 => if σ5 13 2 = 3 ∨ σ5 13 2 = 8 then mob (g_X8_takeNumber F 0 ((σ5 (σ5 13 2).toNat 10) - 1) σ5) (fun r7 σ8 => if σ8 13 2 = 3 ∨ σ8 13 2 = 8 then mob (g_X8_takeNumber F 0 9 σ8) (fun r10 σ11 => mob (g_X5_setGrey F (σ8 13 2).toNat r4 r7 r10 σ11) (fun r12 σ13 => some (0, σ13))) else none) else none) else none)
set_option maxRecDepth 100000 in
set_option maxHeartbeats 4000000 in
theorem c_X6_readGrey (l : Launch) (D : va_G) (cy : Nat → ClassId) (ad : Nat → Nat) (bs : Nat) (F : Nat)   (σ : mMem) (r : Int) (σ' : mMem)  (hf : g_X6_readGrey F  σ = some (r, σ')) : mCv l D cy ad bs yX6_readGrey cX6_readGrey 3 none 4 [.ref (ad 13)] σ σ' := by
  refine mCv.of (lv := [(0, .ref (ad 13))]) km_X6_readGrey.2.2.2.2.2 (Nat.le_of_ble_eq_true rfl) rfl (fun p e s m args below meth c H locs ls X hw hl => ?_)
  obtain ⟨⟨hx, hb, -, -, -⟩, -⟩ := id X
  unfold g_X6_readGrey at hf
  refine lv_aload_n hx hb dX6_readGrey_0 rfl (lv_at hl 0 rfl) ?_
  refine r_getr 14 X hw sh_13 fd_6_0 rfl rfl lf_X6_14 dX6_readGrey_1 ?_
  refine r_cvv (rest := []) [] X hw (fun ra σa h => c_X8_next l D cy ad bs F σ ra σa  h) sh_14 rfl (by decide) rfl km_X8_next kv_X8_next lm_X6_105 dX6_readGrey_4 hl.1 rfl rfl (Nat.le_of_ble_eq_true rfl) ⟨by decide, by decide⟩ ⟨Nat.zero_le _, Nat.zero_le _⟩ hf (fun r1 σ2 _ hf H locs hw => ?_)
  refine lv_aload_n hx hb dX6_readGrey_7 rfl (lv_at hl 0 rfl) ?_
  refine r_getr 14 X hw sh_13 fd_6_0 rfl rfl lf_X6_14 dX6_readGrey_8 ?_
  refine lv_iconst (v := mI 0) hx hb dX6_readGrey_11 rfl ?_
  refine lv_aload_n hx hb dX6_readGrey_12 rfl (lv_at hl 0 rfl) ?_
  refine r_getp X hw sh_13 fd_6_2 rfl lf_X6_29 dX6_readGrey_13 hf (fun hg3 hf => ?_)
  refine r_geti X hw (mPlan_z hg3).1 fd_5_9 rfl lf_X6_112 dX6_readGrey_16 ?_
  refine lv_iconst (v := mI 1) hx hb dX6_readGrey_19 rfl ?_
  refine r_isub X dX6_readGrey_20 ?_
  refine r_cvi (rest := []) [.int (mI 0), .int (mI ((σ2 (σ2 13 2).toNat 9) - 1))] X hw (fun ra σa h => c_X8_takeNumber l D cy ad bs F 0 ((σ2 (σ2 13 2).toNat 9) - 1) σ2 ra σa  h) sh_14 rfl (by decide) rfl km_X8_takeNumber kv_X8_takeNumber lm_X6_108 dX6_readGrey_21 hl.1 rfl rfl (Nat.le_of_ble_eq_true rfl) ⟨by decide, by decide⟩ ⟨Nat.zero_le _, Nat.zero_le _⟩ hf (fun r4 σ5 _ hf H locs hw => ?_)
  refine lv_istore_n (lv' := [(1, .int (mI r4)), (0, .ref (ad 13))]) hx hb dX6_readGrey_24 rfl hl (by decide) rfl (fun ls hl => ?_)
  refine lv_aload_n hx hb dX6_readGrey_25 rfl (lv_at hl 1 rfl) ?_
  refine r_getr 14 X hw sh_13 fd_6_0 rfl rfl lf_X6_14 dX6_readGrey_26 ?_
  refine lv_iconst (v := mI 0) hx hb dX6_readGrey_29 rfl ?_
  refine lv_aload_n hx hb dX6_readGrey_30 rfl (lv_at hl 1 rfl) ?_
  refine r_getp X hw sh_13 fd_6_2 rfl lf_X6_29 dX6_readGrey_31 hf (fun hg6 hf => ?_)
  refine r_geti X hw (mPlan_z hg6).1 fd_5_10 rfl lf_X6_118 dX6_readGrey_34 ?_
  refine lv_iconst (v := mI 1) hx hb dX6_readGrey_37 rfl ?_
  refine r_isub X dX6_readGrey_38 ?_
  refine r_cvi (rest := []) [.int (mI 0), .int (mI ((σ5 (σ5 13 2).toNat 10) - 1))] X hw (fun ra σa h => c_X8_takeNumber l D cy ad bs F 0 ((σ5 (σ5 13 2).toNat 10) - 1) σ5 ra σa  h) sh_14 rfl (by decide) rfl km_X8_takeNumber kv_X8_takeNumber lm_X6_108 dX6_readGrey_39 hl.1 rfl rfl (Nat.le_of_ble_eq_true rfl) ⟨by decide, by decide⟩ ⟨Nat.zero_le _, Nat.zero_le _⟩ hf (fun r7 σ8 _ hf H locs hw => ?_)
  refine lv_istore_n (lv' := [(2, .int (mI r7)), (1, .int (mI r4)), (0, .ref (ad 13))]) hx hb dX6_readGrey_42 rfl hl (by decide) rfl (fun ls hl => ?_)
  refine lv_aload_n hx hb dX6_readGrey_43 rfl (lv_at hl 2 rfl) ?_
  refine r_getp X hw sh_13 fd_6_2 rfl lf_X6_29 dX6_readGrey_44 hf (fun hg9 hf => ?_)
  refine lv_iload_n hx hb dX6_readGrey_47 rfl (lv_at hl 1 rfl) ?_
  refine lv_iload_n hx hb dX6_readGrey_48 rfl (lv_at hl 0 rfl) ?_
  refine lv_aload_n hx hb dX6_readGrey_49 rfl (lv_at hl 2 rfl) ?_
  refine r_getr 14 X hw sh_13 fd_6_0 rfl rfl lf_X6_14 dX6_readGrey_50 ?_
  refine lv_iconst (v := mI 0) hx hb dX6_readGrey_53 rfl ?_
  refine lv_bipush (v := mI 9) hx hb dX6_readGrey_54 (by decide) ?_
  refine r_cvi (rest := [.int (mI r7), .int (mI r4), .ref (ad (σ8 13 2).toNat)]) [.int (mI 0), .int (mI 9)] X hw (fun ra σa h => c_X8_takeNumber l D cy ad bs F 0 9 σ8 ra σa  h) sh_14 rfl (by decide) rfl km_X8_takeNumber kv_X8_takeNumber lm_X6_108 dX6_readGrey_56 hl.1 rfl rfl (Nat.le_of_ble_eq_true rfl) ⟨by decide, by decide⟩ ⟨Nat.zero_le _, Nat.zero_le _⟩ hf (fun r10 σ11 _ hf H locs hw => ?_)
  refine r_cvv (rest := []) [.int (mI r4), .int (mI r7), .int (mI r10)] X hw (fun ra σa h => c_X5_setGrey l D cy ad bs F (σ8 13 2).toNat r4 r7 r10 σ11 ra σa (mPlan_z hg9) h) (mPlan_z hg9).1 rfl (by decide) rfl km_X5_setGrey kv_X5_setGrey lm_X6_121 dX6_readGrey_59 hl.1 rfl rfl (Nat.le_of_ble_eq_true rfl) ⟨by decide, by decide⟩ ⟨Nat.zero_le _, Nat.zero_le _⟩ hf (fun r12 σ13 _ hf H locs hw => ?_)
  exact r_vret X hw dX6_readGrey_62 hf
def g_X6_readSetting_b108 (F : Nat)  (σ : mMem) : mRs := some (0, σ)
set_option maxRecDepth 100000 in
set_option maxHeartbeats 4000000 in
theorem w_X6_readSetting_b108 {p : Program} {l : Launch} {e : Env} {s : State} {m : MethodId} {args : Array Value} {below : List Frame} {meth : Method} {c : Code} {D : va_G} {cy : Nat → ClassId} {ad : Nat → Nat} {bs : Nat} {F : Nat}  (X : mCx p m c cX6_readSetting 2 s args RX6 meth D cy none)  {r : Int} {σ' : mMem}    {σ : mMem} {H : Heap} {locs : List Loc} {ls : Array Slot} (hw : mWd D cy ad bs true mN σ s.heap H locs) (hl : lv_has ls 2 [(0, .ref (ad 13))]) (hf : g_X6_readSetting_b108 F  σ = some (r, σ')) : mGv p l e 4 s m args below meth c D cy ad bs σ' H locs (F0 m 108 ls []) := by
  obtain ⟨⟨hx, hb, -, -, -⟩, -⟩ := id X
  unfold g_X6_readSetting_b108 at hf
  exact r_vret X hw dX6_readSetting_108 hf
def g_X6_readSetting (F : Nat) (x1 : Int) (σ : mMem) : mRs := if ¬ mw x1 = mw 12 then (if ¬ mw x1 = mw 13 then (if ¬ mw x1 = mw 14 then (mob (g_X8_refuseHere F 1 σ) (fun r1 σ2 => g_X6_readSetting_b108 F σ2)) else (mob (g_X8_next F σ) (fun r3 σ4 => if σ4 13 2 = 3 ∨ σ4 13 2 = 8 then mob (g_X8_takeNumber F 0 100 σ4) (fun r6 σ7 => mlm (mup σ7 (σ4 13 2).toNat 14 r6) (fun σ8 => g_X6_readSetting_b108 F σ8)) else none))) else (mob (g_X8_next F σ) (fun r9 σ10 => if σ10 13 2 = 3 ∨ σ10 13 2 = 8 then mob (g_X8_takeNumber F 0 9 σ10) (fun r12 σ13 => mlm (mup σ13 (σ10 13 2).toNat 13 r12) (fun σ14 => g_X6_readSetting_b108 F σ14)) else none))) else (mob (g_X8_next F σ) (fun r15 σ16 => if σ16 13 2 = 3 ∨ σ16 13 2 = 8 then mob (g_X8_takeNumber F 0 999 σ16) (fun r18 σ19 => mlm (mup σ19 (σ16 13 2).toNat 12 r18) (fun σ20 => g_X6_readSetting_b108 F σ20)) else none))
set_option maxRecDepth 100000 in
set_option maxHeartbeats 4000000 in
theorem c_X6_readSetting (l : Launch) (D : va_G) (cy : Nat → ClassId) (ad : Nat → Nat) (bs : Nat) (F : Nat)  (x1 : Int) (σ : mMem) (r : Int) (σ' : mMem)  (hf : g_X6_readSetting F x1 σ = some (r, σ')) : mCv l D cy ad bs yX6_readSetting cX6_readSetting 2 none 4 [.ref (ad 13), .int (mI x1)] σ σ' := by
  refine mCv.of (lv := [(0, .ref (ad 13)), (1, .int (mI x1))]) km_X6_readSetting.2.2.2.2.2 (Nat.le_of_ble_eq_true rfl) rfl (fun p e s m args below meth c H locs ls X hw hl => ?_)
  obtain ⟨⟨hx, hb, -, -, -⟩, -⟩ := id X
  unfold g_X6_readSetting at hf
  refine lv_iload_n hx hb dX6_readSetting_0 rfl (lv_at hl 1 rfl) ?_
  refine lv_bipush (v := mI 12) hx hb dX6_readSetting_1 (by decide) ?_
  refine r_icmp_ne (tgt := 34) X dX6_readSetting_3 (by decide) hf (fun hc hf => ?_) (fun hc hf => ?_)
  · refine lv_iload_n hx hb dX6_readSetting_34 rfl (lv_at hl 1 rfl) ?_
    refine lv_bipush (v := mI 13) hx hb dX6_readSetting_35 (by decide) ?_
    refine r_icmp_ne (tgt := 67) X dX6_readSetting_37 (by decide) hf (fun hc hf => ?_) (fun hc hf => ?_)
    · refine lv_iload_n hx hb dX6_readSetting_67 rfl (lv_at hl 1 rfl) ?_
      refine lv_bipush (v := mI 14) hx hb dX6_readSetting_68 (by decide) ?_
      refine r_icmp_ne (tgt := 100) X dX6_readSetting_70 (by decide) hf (fun hc hf => ?_) (fun hc hf => ?_)
      · refine lv_aload_n hx hb dX6_readSetting_100 rfl (lv_at hl 0 rfl) ?_
        refine r_getr 14 X hw sh_13 fd_6_0 rfl rfl lf_X6_14 dX6_readSetting_101 ?_
        refine lv_iconst (v := mI 1) hx hb dX6_readSetting_104 rfl ?_
        refine r_cvv (rest := []) [.int (mI 1)] X hw (fun ra σa h => c_X8_refuseHere l D cy ad bs F 1 σ ra σa  h) sh_14 rfl (by decide) rfl km_X8_refuseHere kv_X8_refuseHere lm_X6_63 dX6_readSetting_105 hl.1 rfl rfl (Nat.le_of_ble_eq_true rfl) ⟨by decide, by decide⟩ ⟨Nat.zero_le _, Nat.zero_le _⟩ hf (fun r1 σ2 _ hf H locs hw => ?_)
        exact w_X6_readSetting_b108 X hw (lv_sub hl [0] rfl) hf
      · refine lv_aload_n hx hb dX6_readSetting_73 rfl (lv_at hl 0 rfl) ?_
        refine r_getr 14 X hw sh_13 fd_6_0 rfl rfl lf_X6_14 dX6_readSetting_74 ?_
        refine r_cvv (rest := []) [] X hw (fun ra σa h => c_X8_next l D cy ad bs F σ ra σa  h) sh_14 rfl (by decide) rfl km_X8_next kv_X8_next lm_X6_105 dX6_readSetting_77 hl.1 rfl rfl (Nat.le_of_ble_eq_true rfl) ⟨by decide, by decide⟩ ⟨Nat.zero_le _, Nat.zero_le _⟩ hf (fun r3 σ4 _ hf H locs hw => ?_)
        refine lv_aload_n hx hb dX6_readSetting_80 rfl (lv_at hl 0 rfl) ?_
        refine r_getp X hw sh_13 fd_6_2 rfl lf_X6_29 dX6_readSetting_81 hf (fun hg5 hf => ?_)
        refine lv_aload_n hx hb dX6_readSetting_84 rfl (lv_at hl 0 rfl) ?_
        refine r_getr 14 X hw sh_13 fd_6_0 rfl rfl lf_X6_14 dX6_readSetting_85 ?_
        refine lv_iconst (v := mI 0) hx hb dX6_readSetting_88 rfl ?_
        refine lv_bipush (v := mI 100) hx hb dX6_readSetting_89 (by decide) ?_
        refine r_cvi (rest := [.ref (ad (σ4 13 2).toNat)]) [.int (mI 0), .int (mI 100)] X hw (fun ra σa h => c_X8_takeNumber l D cy ad bs F 0 100 σ4 ra σa  h) sh_14 rfl (by decide) rfl km_X8_takeNumber kv_X8_takeNumber lm_X6_108 dX6_readSetting_91 hl.1 rfl rfl (Nat.le_of_ble_eq_true rfl) ⟨by decide, by decide⟩ ⟨Nat.zero_le _, Nat.zero_le _⟩ hf (fun r6 σ7 _ hf H locs hw => ?_)
        refine r_puti X hw (mPlan_z hg5).1 fd_5_14 fp_5_14 rfl rfl lf_X6_150 dX6_readSetting_94 (fun H locs hw => ?_)
        refine r_mem hf hw (fun σ8 hw hf => ?_)
        refine lv_goto (tgt := 108) hx hb dX6_readSetting_97 (by decide) ?_
        exact w_X6_readSetting_b108 X hw (lv_sub hl [0] rfl) hf
    · refine lv_aload_n hx hb dX6_readSetting_40 rfl (lv_at hl 0 rfl) ?_
      refine r_getr 14 X hw sh_13 fd_6_0 rfl rfl lf_X6_14 dX6_readSetting_41 ?_
      refine r_cvv (rest := []) [] X hw (fun ra σa h => c_X8_next l D cy ad bs F σ ra σa  h) sh_14 rfl (by decide) rfl km_X8_next kv_X8_next lm_X6_105 dX6_readSetting_44 hl.1 rfl rfl (Nat.le_of_ble_eq_true rfl) ⟨by decide, by decide⟩ ⟨Nat.zero_le _, Nat.zero_le _⟩ hf (fun r9 σ10 _ hf H locs hw => ?_)
      refine lv_aload_n hx hb dX6_readSetting_47 rfl (lv_at hl 0 rfl) ?_
      refine r_getp X hw sh_13 fd_6_2 rfl lf_X6_29 dX6_readSetting_48 hf (fun hg11 hf => ?_)
      refine lv_aload_n hx hb dX6_readSetting_51 rfl (lv_at hl 0 rfl) ?_
      refine r_getr 14 X hw sh_13 fd_6_0 rfl rfl lf_X6_14 dX6_readSetting_52 ?_
      refine lv_iconst (v := mI 0) hx hb dX6_readSetting_55 rfl ?_
      refine lv_bipush (v := mI 9) hx hb dX6_readSetting_56 (by decide) ?_
      refine r_cvi (rest := [.ref (ad (σ10 13 2).toNat)]) [.int (mI 0), .int (mI 9)] X hw (fun ra σa h => c_X8_takeNumber l D cy ad bs F 0 9 σ10 ra σa  h) sh_14 rfl (by decide) rfl km_X8_takeNumber kv_X8_takeNumber lm_X6_108 dX6_readSetting_58 hl.1 rfl rfl (Nat.le_of_ble_eq_true rfl) ⟨by decide, by decide⟩ ⟨Nat.zero_le _, Nat.zero_le _⟩ hf (fun r12 σ13 _ hf H locs hw => ?_)
      refine r_puti X hw (mPlan_z hg11).1 fd_5_13 fp_5_13 rfl rfl lf_X6_147 dX6_readSetting_61 (fun H locs hw => ?_)
      refine r_mem hf hw (fun σ14 hw hf => ?_)
      refine lv_goto (tgt := 108) hx hb dX6_readSetting_64 (by decide) ?_
      exact w_X6_readSetting_b108 X hw (lv_sub hl [0] rfl) hf
  · refine lv_aload_n hx hb dX6_readSetting_6 rfl (lv_at hl 0 rfl) ?_
    refine r_getr 14 X hw sh_13 fd_6_0 rfl rfl lf_X6_14 dX6_readSetting_7 ?_
    refine r_cvv (rest := []) [] X hw (fun ra σa h => c_X8_next l D cy ad bs F σ ra σa  h) sh_14 rfl (by decide) rfl km_X8_next kv_X8_next lm_X6_105 dX6_readSetting_10 hl.1 rfl rfl (Nat.le_of_ble_eq_true rfl) ⟨by decide, by decide⟩ ⟨Nat.zero_le _, Nat.zero_le _⟩ hf (fun r15 σ16 _ hf H locs hw => ?_)
    refine lv_aload_n hx hb dX6_readSetting_13 rfl (lv_at hl 0 rfl) ?_
    refine r_getp X hw sh_13 fd_6_2 rfl lf_X6_29 dX6_readSetting_14 hf (fun hg17 hf => ?_)
    refine lv_aload_n hx hb dX6_readSetting_17 rfl (lv_at hl 0 rfl) ?_
    refine r_getr 14 X hw sh_13 fd_6_0 rfl rfl lf_X6_14 dX6_readSetting_18 ?_
    refine lv_iconst (v := mI 0) hx hb dX6_readSetting_21 rfl ?_
    refine lv_sipush (v := mI 999) hx hb dX6_readSetting_22 (by decide) ?_
    refine r_cvi (rest := [.ref (ad (σ16 13 2).toNat)]) [.int (mI 0), .int (mI 999)] X hw (fun ra σa h => c_X8_takeNumber l D cy ad bs F 0 999 σ16 ra σa  h) sh_14 rfl (by decide) rfl km_X8_takeNumber kv_X8_takeNumber lm_X6_108 dX6_readSetting_25 hl.1 rfl rfl (Nat.le_of_ble_eq_true rfl) ⟨by decide, by decide⟩ ⟨Nat.zero_le _, Nat.zero_le _⟩ hf (fun r18 σ19 _ hf H locs hw => ?_)
    refine r_puti X hw (mPlan_z hg17).1 fd_5_12 fp_5_12 rfl rfl lf_X6_144 dX6_readSetting_28 (fun H locs hw => ?_)
    refine r_mem hf hw (fun σ20 hw hf => ?_)
    refine lv_goto (tgt := 108) hx hb dX6_readSetting_31 (by decide) ?_
    exact w_X6_readSetting_b108 X hw (lv_sub hl [0] rfl) hf
def g_X6_refuseOneTooMany_b90 (F : Nat)  (σ : mMem) : mRs := some (0, σ)
set_option maxRecDepth 100000 in
set_option maxHeartbeats 4000000 in
theorem w_X6_refuseOneTooMany_b90 {p : Program} {l : Launch} {e : Env} {s : State} {m : MethodId} {args : Array Value} {below : List Frame} {meth : Method} {c : Code} {D : va_G} {cy : Nat → ClassId} {ad : Nat → Nat} {bs : Nat} {F : Nat}  (X : mCx p m c cX6_refuseOneTooMany 5 s args RX6 meth D cy none)  {r : Int} {σ' : mMem}    {σ : mMem} {H : Heap} {locs : List Loc} {ls : Array Slot} (hw : mWd D cy ad bs true mN σ s.heap H locs) (hl : lv_has ls 5 [(0, .ref (ad 13))]) (hf : g_X6_refuseOneTooMany_b90 F  σ = some (r, σ')) : mGv p l e 2 s m args below meth c D cy ad bs σ' H locs (F0 m 90 ls []) := by
  obtain ⟨⟨hx, hb, -, -, -⟩, -⟩ := id X
  unfold g_X6_refuseOneTooMany_b90 at hf
  exact r_vret X hw dX6_refuseOneTooMany_90 hf
def g_X6_refuseOneTooMany_b81 (F : Nat)  (σ : mMem) : mRs := mob (g_X8_refuseHere F 6 σ) (fun r808 σ809 => g_X6_refuseOneTooMany_b90 F σ809)
set_option maxRecDepth 100000 in
set_option maxHeartbeats 4000000 in
theorem w_X6_refuseOneTooMany_b81 {p : Program} {l : Launch} {e : Env} {s : State} {m : MethodId} {args : Array Value} {below : List Frame} {meth : Method} {c : Code} {D : va_G} {cy : Nat → ClassId} {ad : Nat → Nat} {bs : Nat} {F : Nat}  (X : mCx p m c cX6_refuseOneTooMany 5 s args RX6 meth D cy none)  {r : Int} {σ' : mMem}    {σ : mMem} {H : Heap} {locs : List Loc} {ls : Array Slot} (hw : mWd D cy ad bs true mN σ s.heap H locs) (hl : lv_has ls 5 [(0, .ref (ad 13))]) (hf : g_X6_refuseOneTooMany_b81 F  σ = some (r, σ')) : mGv p l e 2 s m args below meth c D cy ad bs σ' H locs (F0 m 81 ls []) := by
  obtain ⟨⟨hx, hb, -, -, -⟩, -⟩ := id X
  unfold g_X6_refuseOneTooMany_b81 at hf
  refine lv_aload_n hx hb dX6_refuseOneTooMany_81 rfl (lv_at hl 0 rfl) ?_
  refine r_getr 14 X hw sh_13 fd_6_0 rfl rfl lf_X6_14 dX6_refuseOneTooMany_82 ?_
  refine lv_bipush (v := mI 6) hx hb dX6_refuseOneTooMany_85 (by decide) ?_
  refine r_cvv (rest := []) [.int (mI 6)] X hw (fun ra σa h => c_X8_refuseHere l D cy ad bs F 6 σ ra σa  h) sh_14 rfl (by decide) rfl km_X8_refuseHere kv_X8_refuseHere lm_X6_63 dX6_refuseOneTooMany_87 hl.1 rfl rfl (Nat.le_of_ble_eq_true rfl) ⟨by decide, by decide⟩ ⟨Nat.zero_le _, Nat.zero_le _⟩ hf (fun r808 σ809 _ hf H locs hw => ?_)
  exact w_X6_refuseOneTooMany_b90 X hw (lv_sub hl [0] rfl) hf
def g_X6_refuseOneTooMany_b66 (F : Nat)  (x2 x3 t0 : Int) (σ : mMem) : mRs := if ¬ mw x2 = 0 then (g_X6_refuseOneTooMany_b81 F σ) else (if ¬ mw x3 = 0 then (g_X6_refuseOneTooMany_b81 F σ) else (if mw t0 = 0 then (g_X6_refuseOneTooMany_b90 F σ) else (g_X6_refuseOneTooMany_b81 F σ)))
set_option maxRecDepth 100000 in
set_option maxHeartbeats 4000000 in
theorem w_X6_refuseOneTooMany_b66 {p : Program} {l : Launch} {e : Env} {s : State} {m : MethodId} {args : Array Value} {below : List Frame} {meth : Method} {c : Code} {D : va_G} {cy : Nat → ClassId} {ad : Nat → Nat} {bs : Nat} {F : Nat}  (X : mCx p m c cX6_refuseOneTooMany 5 s args RX6 meth D cy none)  {r : Int} {σ' : mMem}   {x2 x3 t0 : Int} {σ : mMem} {H : Heap} {locs : List Loc} {ls : Array Slot} (hw : mWd D cy ad bs true mN σ s.heap H locs) (hl : lv_has ls 5 [(0, .ref (ad 13)), (2, .int (mI x2)), (3, .int (mI x3))]) (hf : g_X6_refuseOneTooMany_b66 F x2 x3 t0 σ = some (r, σ')) : mGv p l e 2 s m args below meth c D cy ad bs σ' H locs (F0 m 66 ls [.int (mI t0)]) := by
  obtain ⟨⟨hx, hb, -, -, -⟩, -⟩ := id X
  unfold g_X6_refuseOneTooMany_b66 at hf
  refine lv_istore (lv' := [(4, .int (mI t0)), (0, .ref (ad 13)), (2, .int (mI x2)), (3, .int (mI x3))]) hx hb dX6_refuseOneTooMany_66 hl (by decide) rfl (fun ls hl => ?_)
  refine lv_iload_n hx hb dX6_refuseOneTooMany_68 rfl (lv_at hl 2 rfl) ?_
  refine r_if_ne (tgt := 81) X dX6_refuseOneTooMany_69 (by decide) hf (fun hc hf => ?_) (fun hc hf => ?_)
  · exact w_X6_refuseOneTooMany_b81 X hw (lv_sub hl [1] rfl) hf
  · refine lv_iload_n hx hb dX6_refuseOneTooMany_72 rfl (lv_at hl 3 rfl) ?_
    refine r_if_ne (tgt := 81) X dX6_refuseOneTooMany_73 (by decide) hf (fun hc hf => ?_) (fun hc hf => ?_)
    · exact w_X6_refuseOneTooMany_b81 X hw (lv_sub hl [1] rfl) hf
    · refine lv_iload hx hb dX6_refuseOneTooMany_76 (lv_at hl 0 rfl) ?_
      refine r_if_eq (tgt := 90) X dX6_refuseOneTooMany_78 (by decide) hf (fun hc hf => ?_) (fun hc hf => ?_)
      · exact w_X6_refuseOneTooMany_b90 X hw (lv_sub hl [1] rfl) hf
      · exact w_X6_refuseOneTooMany_b81 X hw (lv_sub hl [1] rfl) hf
def g_X6_refuseOneTooMany_b65 (F : Nat)  (x2 x3 : Int) (σ : mMem) : mRs := g_X6_refuseOneTooMany_b66 F x2 x3 0 σ
set_option maxRecDepth 100000 in
set_option maxHeartbeats 4000000 in
theorem w_X6_refuseOneTooMany_b65 {p : Program} {l : Launch} {e : Env} {s : State} {m : MethodId} {args : Array Value} {below : List Frame} {meth : Method} {c : Code} {D : va_G} {cy : Nat → ClassId} {ad : Nat → Nat} {bs : Nat} {F : Nat}  (X : mCx p m c cX6_refuseOneTooMany 5 s args RX6 meth D cy none)  {r : Int} {σ' : mMem}   {x2 x3 : Int} {σ : mMem} {H : Heap} {locs : List Loc} {ls : Array Slot} (hw : mWd D cy ad bs true mN σ s.heap H locs) (hl : lv_has ls 5 [(0, .ref (ad 13)), (2, .int (mI x2)), (3, .int (mI x3))]) (hf : g_X6_refuseOneTooMany_b65 F x2 x3 σ = some (r, σ')) : mGv p l e 2 s m args below meth c D cy ad bs σ' H locs (F0 m 65 ls []) := by
  obtain ⟨⟨hx, hb, -, -, -⟩, -⟩ := id X
  unfold g_X6_refuseOneTooMany_b65 at hf
  refine lv_iconst (v := mI 0) hx hb dX6_refuseOneTooMany_65 rfl ?_
  exact w_X6_refuseOneTooMany_b66 X hw (lv_sub hl [0, 1, 2] rfl) hf
def g_X6_refuseOneTooMany_b44 (F : Nat)  (x1 x2 t0 : Int) (σ : mMem) : mRs := if ¬ mw x1 = mw 11 then (g_X6_refuseOneTooMany_b65 F x2 t0 σ) else (if σ 13 2 = 3 ∨ σ 13 2 = 8 then mob (g_X5_hasGoes F (σ 13 2).toNat σ) (fun r306 σ307 => if mw r306 = 0 then (g_X6_refuseOneTooMany_b65 F x2 t0 σ307) else (g_X6_refuseOneTooMany_b66 F x2 t0 1 σ307)) else none)
set_option maxRecDepth 100000 in
set_option maxHeartbeats 4000000 in
theorem w_X6_refuseOneTooMany_b44 {p : Program} {l : Launch} {e : Env} {s : State} {m : MethodId} {args : Array Value} {below : List Frame} {meth : Method} {c : Code} {D : va_G} {cy : Nat → ClassId} {ad : Nat → Nat} {bs : Nat} {F : Nat}  (X : mCx p m c cX6_refuseOneTooMany 5 s args RX6 meth D cy none)  {r : Int} {σ' : mMem}   {x1 x2 t0 : Int} {σ : mMem} {H : Heap} {locs : List Loc} {ls : Array Slot} (hw : mWd D cy ad bs true mN σ s.heap H locs) (hl : lv_has ls 5 [(0, .ref (ad 13)), (1, .int (mI x1)), (2, .int (mI x2))]) (hf : g_X6_refuseOneTooMany_b44 F x1 x2 t0 σ = some (r, σ')) : mGv p l e 2 s m args below meth c D cy ad bs σ' H locs (F0 m 44 ls [.int (mI t0)]) := by
  obtain ⟨⟨hx, hb, -, -, -⟩, -⟩ := id X
  unfold g_X6_refuseOneTooMany_b44 at hf
  refine lv_istore_n (lv' := [(3, .int (mI t0)), (0, .ref (ad 13)), (1, .int (mI x1)), (2, .int (mI x2))]) hx hb dX6_refuseOneTooMany_44 rfl hl (by decide) rfl (fun ls hl => ?_)
  refine lv_iload_n hx hb dX6_refuseOneTooMany_45 rfl (lv_at hl 2 rfl) ?_
  refine lv_bipush (v := mI 11) hx hb dX6_refuseOneTooMany_46 (by decide) ?_
  refine r_icmp_ne (tgt := 65) X dX6_refuseOneTooMany_48 (by decide) hf (fun hc hf => ?_) (fun hc hf => ?_)
  · exact w_X6_refuseOneTooMany_b65 X hw (lv_sub hl [1, 3, 0] rfl) hf
  · refine lv_aload_n hx hb dX6_refuseOneTooMany_51 rfl (lv_at hl 1 rfl) ?_
    refine r_getp X hw sh_13 fd_6_2 rfl lf_X6_29 dX6_refuseOneTooMany_52 hf (fun hg305 hf => ?_)
    refine r_cvi (rest := []) [] X hw (fun ra σa h => c_X5_hasGoes l D cy ad bs F (σ 13 2).toNat σ ra σa (mPlan_z hg305) h) (mPlan_z hg305).1 rfl (by decide) rfl km_X5_hasGoes kv_X5_hasGoes lm_X6_102 dX6_refuseOneTooMany_55 hl.1 rfl rfl (Nat.le_of_ble_eq_true rfl) ⟨by decide, by decide⟩ ⟨Nat.zero_le _, Nat.zero_le _⟩ hf (fun r306 σ307 _ hf H locs hw => ?_)
    refine r_if_eq (tgt := 65) X dX6_refuseOneTooMany_58 (by decide) hf (fun hc hf => ?_) (fun hc hf => ?_)
    · exact w_X6_refuseOneTooMany_b65 X hw (lv_sub hl [1, 3, 0] rfl) hf
    · refine lv_iconst (v := mI 1) hx hb dX6_refuseOneTooMany_61 rfl ?_
      refine lv_goto (tgt := 66) hx hb dX6_refuseOneTooMany_62 (by decide) ?_
      exact w_X6_refuseOneTooMany_b66 X hw (lv_sub hl [1, 3, 0] rfl) hf
def g_X6_refuseOneTooMany_b43 (F : Nat)  (x1 x2 : Int) (σ : mMem) : mRs := g_X6_refuseOneTooMany_b44 F x1 x2 0 σ
set_option maxRecDepth 100000 in
set_option maxHeartbeats 4000000 in
theorem w_X6_refuseOneTooMany_b43 {p : Program} {l : Launch} {e : Env} {s : State} {m : MethodId} {args : Array Value} {below : List Frame} {meth : Method} {c : Code} {D : va_G} {cy : Nat → ClassId} {ad : Nat → Nat} {bs : Nat} {F : Nat}  (X : mCx p m c cX6_refuseOneTooMany 5 s args RX6 meth D cy none)  {r : Int} {σ' : mMem}   {x1 x2 : Int} {σ : mMem} {H : Heap} {locs : List Loc} {ls : Array Slot} (hw : mWd D cy ad bs true mN σ s.heap H locs) (hl : lv_has ls 5 [(0, .ref (ad 13)), (1, .int (mI x1)), (2, .int (mI x2))]) (hf : g_X6_refuseOneTooMany_b43 F x1 x2 σ = some (r, σ')) : mGv p l e 2 s m args below meth c D cy ad bs σ' H locs (F0 m 43 ls []) := by
  obtain ⟨⟨hx, hb, -, -, -⟩, -⟩ := id X
  unfold g_X6_refuseOneTooMany_b43 at hf
  refine lv_iconst (v := mI 0) hx hb dX6_refuseOneTooMany_43 rfl ?_
  exact w_X6_refuseOneTooMany_b44 X hw (lv_sub hl [0, 1, 2] rfl) hf
def g_X6_refuseOneTooMany_b22 (F : Nat)  (x1 t0 : Int) (σ : mMem) : mRs := if ¬ mw x1 = mw 10 then (g_X6_refuseOneTooMany_b43 F x1 t0 σ) else (if σ 13 2 = 3 ∨ σ 13 2 = 8 then mob (g_X5_hasSteers F (σ 13 2).toNat σ) (fun r103 σ104 => if mw r103 = 0 then (g_X6_refuseOneTooMany_b43 F x1 t0 σ104) else (g_X6_refuseOneTooMany_b44 F x1 t0 1 σ104)) else none)
set_option maxRecDepth 100000 in
set_option maxHeartbeats 4000000 in
theorem w_X6_refuseOneTooMany_b22 {p : Program} {l : Launch} {e : Env} {s : State} {m : MethodId} {args : Array Value} {below : List Frame} {meth : Method} {c : Code} {D : va_G} {cy : Nat → ClassId} {ad : Nat → Nat} {bs : Nat} {F : Nat}  (X : mCx p m c cX6_refuseOneTooMany 5 s args RX6 meth D cy none)  {r : Int} {σ' : mMem}   {x1 t0 : Int} {σ : mMem} {H : Heap} {locs : List Loc} {ls : Array Slot} (hw : mWd D cy ad bs true mN σ s.heap H locs) (hl : lv_has ls 5 [(0, .ref (ad 13)), (1, .int (mI x1))]) (hf : g_X6_refuseOneTooMany_b22 F x1 t0 σ = some (r, σ')) : mGv p l e 2 s m args below meth c D cy ad bs σ' H locs (F0 m 22 ls [.int (mI t0)]) := by
  obtain ⟨⟨hx, hb, -, -, -⟩, -⟩ := id X
  unfold g_X6_refuseOneTooMany_b22 at hf
  refine lv_istore_n (lv' := [(2, .int (mI t0)), (0, .ref (ad 13)), (1, .int (mI x1))]) hx hb dX6_refuseOneTooMany_22 rfl hl (by decide) rfl (fun ls hl => ?_)
  refine lv_iload_n hx hb dX6_refuseOneTooMany_23 rfl (lv_at hl 2 rfl) ?_
  refine lv_bipush (v := mI 10) hx hb dX6_refuseOneTooMany_24 (by decide) ?_
  refine r_icmp_ne (tgt := 43) X dX6_refuseOneTooMany_26 (by decide) hf (fun hc hf => ?_) (fun hc hf => ?_)
  · exact w_X6_refuseOneTooMany_b43 X hw (lv_sub hl [1, 2, 0] rfl) hf
  · refine lv_aload_n hx hb dX6_refuseOneTooMany_29 rfl (lv_at hl 1 rfl) ?_
    refine r_getp X hw sh_13 fd_6_2 rfl lf_X6_29 dX6_refuseOneTooMany_30 hf (fun hg102 hf => ?_)
    refine r_cvi (rest := []) [] X hw (fun ra σa h => c_X5_hasSteers l D cy ad bs F (σ 13 2).toNat σ ra σa (mPlan_z hg102) h) (mPlan_z hg102).1 rfl (by decide) rfl km_X5_hasSteers kv_X5_hasSteers lm_X6_98 dX6_refuseOneTooMany_33 hl.1 rfl rfl (Nat.le_of_ble_eq_true rfl) ⟨by decide, by decide⟩ ⟨Nat.zero_le _, Nat.zero_le _⟩ hf (fun r103 σ104 _ hf H locs hw => ?_)
    refine r_if_eq (tgt := 43) X dX6_refuseOneTooMany_36 (by decide) hf (fun hc hf => ?_) (fun hc hf => ?_)
    · exact w_X6_refuseOneTooMany_b43 X hw (lv_sub hl [1, 2, 0] rfl) hf
    · refine lv_iconst (v := mI 1) hx hb dX6_refuseOneTooMany_39 rfl ?_
      refine lv_goto (tgt := 44) hx hb dX6_refuseOneTooMany_40 (by decide) ?_
      exact w_X6_refuseOneTooMany_b44 X hw (lv_sub hl [1, 2, 0] rfl) hf
def g_X6_refuseOneTooMany_b21 (F : Nat)  (x1 : Int) (σ : mMem) : mRs := g_X6_refuseOneTooMany_b22 F x1 0 σ
set_option maxRecDepth 100000 in
set_option maxHeartbeats 4000000 in
theorem w_X6_refuseOneTooMany_b21 {p : Program} {l : Launch} {e : Env} {s : State} {m : MethodId} {args : Array Value} {below : List Frame} {meth : Method} {c : Code} {D : va_G} {cy : Nat → ClassId} {ad : Nat → Nat} {bs : Nat} {F : Nat}  (X : mCx p m c cX6_refuseOneTooMany 5 s args RX6 meth D cy none)  {r : Int} {σ' : mMem}   {x1 : Int} {σ : mMem} {H : Heap} {locs : List Loc} {ls : Array Slot} (hw : mWd D cy ad bs true mN σ s.heap H locs) (hl : lv_has ls 5 [(0, .ref (ad 13)), (1, .int (mI x1))]) (hf : g_X6_refuseOneTooMany_b21 F x1 σ = some (r, σ')) : mGv p l e 2 s m args below meth c D cy ad bs σ' H locs (F0 m 21 ls []) := by
  obtain ⟨⟨hx, hb, -, -, -⟩, -⟩ := id X
  unfold g_X6_refuseOneTooMany_b21 at hf
  refine lv_iconst (v := mI 0) hx hb dX6_refuseOneTooMany_21 rfl ?_
  exact w_X6_refuseOneTooMany_b22 X hw (lv_sub hl [0, 1] rfl) hf
def g_X6_refuseOneTooMany (F : Nat) (x1 : Int) (σ : mMem) : mRs := if ¬ mw x1 = mw 3 then (g_X6_refuseOneTooMany_b21 F x1 σ) else (if σ 13 2 = 3 ∨ σ 13 2 = 8 then if ¬ mw (σ (σ 13 2).toNat 11) = mw 6 then (g_X6_refuseOneTooMany_b21 F x1 σ) else (g_X6_refuseOneTooMany_b22 F x1 1 σ) else none)
set_option maxRecDepth 100000 in
set_option maxHeartbeats 4000000 in
theorem c_X6_refuseOneTooMany (l : Launch) (D : va_G) (cy : Nat → ClassId) (ad : Nat → Nat) (bs : Nat) (F : Nat)  (x1 : Int) (σ : mMem) (r : Int) (σ' : mMem)  (hf : g_X6_refuseOneTooMany F x1 σ = some (r, σ')) : mCv l D cy ad bs yX6_refuseOneTooMany cX6_refuseOneTooMany 5 none 2 [.ref (ad 13), .int (mI x1)] σ σ' := by
  refine mCv.of (lv := [(0, .ref (ad 13)), (1, .int (mI x1))]) km_X6_refuseOneTooMany.2.2.2.2.2 (Nat.le_of_ble_eq_true rfl) rfl (fun p e s m args below meth c H locs ls X hw hl => ?_)
  obtain ⟨⟨hx, hb, -, -, -⟩, -⟩ := id X
  unfold g_X6_refuseOneTooMany at hf
  refine lv_iload_n hx hb dX6_refuseOneTooMany_0 rfl (lv_at hl 1 rfl) ?_
  refine lv_iconst (v := mI 3) hx hb dX6_refuseOneTooMany_1 rfl ?_
  refine r_icmp_ne (tgt := 21) X dX6_refuseOneTooMany_2 (by decide) hf (fun hc hf => ?_) (fun hc hf => ?_)
  · exact w_X6_refuseOneTooMany_b21 X hw (lv_sub hl [0, 1] rfl) hf
  · refine lv_aload_n hx hb dX6_refuseOneTooMany_5 rfl (lv_at hl 0 rfl) ?_
    refine r_getp X hw sh_13 fd_6_2 rfl lf_X6_29 dX6_refuseOneTooMany_6 hf (fun hg1 hf => ?_)
    refine r_geti X hw (mPlan_z hg1).1 fd_5_11 rfl lf_X6_95 dX6_refuseOneTooMany_9 ?_
    refine lv_bipush (v := mI 6) hx hb dX6_refuseOneTooMany_12 (by decide) ?_
    refine r_icmp_ne (tgt := 21) X dX6_refuseOneTooMany_14 (by decide) hf (fun hc hf => ?_) (fun hc hf => ?_)
    · exact w_X6_refuseOneTooMany_b21 X hw (lv_sub hl [0, 1] rfl) hf
    · refine lv_iconst (v := mI 1) hx hb dX6_refuseOneTooMany_17 rfl ?_
      refine lv_goto (tgt := 22) hx hb dX6_refuseOneTooMany_18 (by decide) ?_
      exact w_X6_refuseOneTooMany_b22 X hw (lv_sub hl [0, 1] rfl) hf
def g_X6_readStatement_b180 (F : Nat)  (σ : mMem) : mRs := some (0, σ)
set_option maxRecDepth 100000 in
set_option maxHeartbeats 4000000 in
theorem w_X6_readStatement_b180 {p : Program} {l : Launch} {e : Env} {s : State} {m : MethodId} {args : Array Value} {below : List Frame} {meth : Method} {c : Code} {D : va_G} {cy : Nat → ClassId} {ad : Nat → Nat} {bs : Nat} {F : Nat}  (X : mCx p m c cX6_readStatement 3 s args RX6 meth D cy none)  {r : Int} {σ' : mMem}    {σ : mMem} {H : Heap} {locs : List Loc} {ls : Array Slot} (hw : mWd D cy ad bs true mN σ s.heap H locs) (hl : lv_has ls 3 [(0, .ref (ad 13))]) (hf : g_X6_readStatement_b180 F  σ = some (r, σ')) : mGv p l e 96 s m args below meth c D cy ad bs σ' H locs (F0 m 180 ls []) := by
  obtain ⟨⟨hx, hb, -, -, -⟩, -⟩ := id X
  unfold g_X6_readStatement_b180 at hf
  exact r_vret X hw dX6_readStatement_180 hf
def g_X6_readStatement_b175 (F : Nat)  (x2 : Int) (σ : mMem) : mRs := mob (g_X6_readSetting F x2 σ) (fun r421 σ422 => g_X6_readStatement_b180 F σ422)
set_option maxRecDepth 100000 in
set_option maxHeartbeats 4000000 in
theorem w_X6_readStatement_b175 {p : Program} {l : Launch} {e : Env} {s : State} {m : MethodId} {args : Array Value} {below : List Frame} {meth : Method} {c : Code} {D : va_G} {cy : Nat → ClassId} {ad : Nat → Nat} {bs : Nat} {F : Nat}  (X : mCx p m c cX6_readStatement 3 s args RX6 meth D cy none)  {r : Int} {σ' : mMem}   {x2 : Int} {σ : mMem} {H : Heap} {locs : List Loc} {ls : Array Slot} (hw : mWd D cy ad bs true mN σ s.heap H locs) (hl : lv_has ls 3 [(0, .ref (ad 13)), (2, .int (mI x2))]) (hf : g_X6_readStatement_b175 F x2 σ = some (r, σ')) : mGv p l e 96 s m args below meth c D cy ad bs σ' H locs (F0 m 175 ls []) := by
  obtain ⟨⟨hx, hb, -, -, -⟩, -⟩ := id X
  unfold g_X6_readStatement_b175 at hf
  refine lv_aload_n hx hb dX6_readStatement_175 rfl (lv_at hl 0 rfl) ?_
  refine lv_iload_n hx hb dX6_readStatement_176 rfl (lv_at hl 1 rfl) ?_
  refine r_cvv (rest := []) [.int (mI x2)] X hw (fun ra σa h => c_X6_readSetting l D cy ad bs F x2 σ ra σa  h) sh_13 rfl (by decide) rfl km_X6_readSetting kv_X6_readSetting lm_X6_92 dX6_readStatement_177 hl.1 rfl rfl (Nat.le_of_ble_eq_true rfl) ⟨by decide, by decide⟩ ⟨Nat.zero_le _, Nat.zero_le _⟩ hf (fun r421 σ422 _ hf H locs hw => ?_)
  exact w_X6_readStatement_b180 X hw (lv_sub hl [0] rfl) hf
def g_X6_readStatement_b33 (F : Nat)  (x2 t0 t1 : Int) (σ : mMem) : mRs := if mw t0 = mw t1 then (mob (g_X6_refuseOneTooMany F x2 σ) (fun r201 σ202 => if mw x2 = 0 then (mob (g_X6_readFloor F σ202) (fun r203 σ204 => g_X6_readStatement_b180 F σ204)) else (if mw x2 = 1 then (g_X6_readStatement_b175 F x2 σ202) else (if mw x2 = 2 then (mob (g_X6_readGrey F σ202) (fun r205 σ206 => g_X6_readStatement_b180 F σ206)) else (if mw x2 = 3 then (mob (g_X6_readBox F σ202) (fun r207 σ208 => g_X6_readStatement_b180 F σ208)) else (if mw x2 = 4 then (g_X6_readStatement_b175 F x2 σ202) else (if mw x2 = 5 then (g_X6_readStatement_b175 F x2 σ202) else (if mw x2 = 6 then (mob (g_X6_readEyes F σ202) (fun r209 σ210 => g_X6_readStatement_b180 F σ210)) else (if mw x2 = 7 then (g_X6_readStatement_b175 F x2 σ202) else (if mw x2 = 8 then (g_X6_readStatement_b175 F x2 σ202) else (if mw x2 = 9 then (mob (g_X6_readBias F σ202) (fun r211 σ212 => g_X6_readStatement_b180 F σ212)) else (if mw x2 = 10 then (if σ202 13 2 = 3 ∨ σ202 13 2 = 8 then mob (g_X1_readSteers F (σ202 13 2).toNat σ202) (fun r214 σ215 => g_X6_readStatement_b180 F σ215) else none) else (if mw x2 = 11 then (if σ202 13 2 = 3 ∨ σ202 13 2 = 8 then mob (g_X1_readGoes F (σ202 13 2).toNat σ202) (fun r217 σ218 => g_X6_readStatement_b180 F σ218) else none) else (g_X6_readStatement_b175 F x2 σ202)))))))))))))) else (mob (g_X8_refuseHere F 1 σ) (fun r219 σ220 => some (0, σ220)))
set_option maxRecDepth 100000 in
set_option maxHeartbeats 4000000 in
theorem w_X6_readStatement_b33 {p : Program} {l : Launch} {e : Env} {s : State} {m : MethodId} {args : Array Value} {below : List Frame} {meth : Method} {c : Code} {D : va_G} {cy : Nat → ClassId} {ad : Nat → Nat} {bs : Nat} {F : Nat}  (X : mCx p m c cX6_readStatement 3 s args RX6 meth D cy none)  {r : Int} {σ' : mMem}   {x2 t0 t1 : Int} {σ : mMem} {H : Heap} {locs : List Loc} {ls : Array Slot} (hw : mWd D cy ad bs true mN σ s.heap H locs) (hl : lv_has ls 3 [(0, .ref (ad 13)), (2, .int (mI x2))]) (hf : g_X6_readStatement_b33 F x2 t0 t1 σ = some (r, σ')) : mGv p l e 96 s m args below meth c D cy ad bs σ' H locs (F0 m 33 ls [.int (mI t1), .int (mI t0)]) := by
  obtain ⟨⟨hx, hb, -, -, -⟩, -⟩ := id X
  unfold g_X6_readStatement_b33 at hf
  refine r_icmp_eq (tgt := 45) X dX6_readStatement_33 (by decide) hf (fun hc hf => ?_) (fun hc hf => ?_)
  · refine lv_aload_n hx hb dX6_readStatement_45 rfl (lv_at hl 0 rfl) ?_
    refine lv_iload_n hx hb dX6_readStatement_46 rfl (lv_at hl 1 rfl) ?_
    refine r_cvv (rest := []) [.int (mI x2)] X hw (fun ra σa h => c_X6_refuseOneTooMany l D cy ad bs F x2 σ ra σa  h) sh_13 rfl (by decide) rfl km_X6_refuseOneTooMany kv_X6_refuseOneTooMany lm_X6_67 dX6_readStatement_47 hl.1 rfl rfl (Nat.le_of_ble_eq_true rfl) ⟨by decide, by decide⟩ ⟨Nat.zero_le _, Nat.zero_le _⟩ hf (fun r201 σ202 _ hf H locs hw => ?_)
    refine lv_iload_n hx hb dX6_readStatement_50 rfl (lv_at hl 1 rfl) ?_
    refine r_case hf (fun hc0 hf => ?_) (fun hc0 hf => ?_)
    · refine r_tin (k := 0) (off := 61) (tgt := 112) X dX6_readStatement_51 hc0 (by decide) (by decide) rfl (by decide) ?_
      refine lv_aload_n hx hb dX6_readStatement_112 rfl (lv_at hl 0 rfl) ?_
      refine r_cvv (rest := []) [] X hw (fun ra σa h => c_X6_readFloor l D cy ad bs F σ202 ra σa  h) sh_13 rfl (by decide) rfl km_X6_readFloor kv_X6_readFloor lm_X6_70 dX6_readStatement_113 hl.1 rfl rfl (Nat.le_of_ble_eq_true rfl) ⟨by decide, by decide⟩ ⟨Nat.zero_le _, Nat.zero_le _⟩ hf (fun r203 σ204 _ hf H locs hw => ?_)
      refine lv_goto (tgt := 180) hx hb dX6_readStatement_116 (by decide) ?_
      exact w_X6_readStatement_b180 X hw (lv_sub hl [0] rfl) hf
    refine r_case hf (fun hc1 hf => ?_) (fun hc1 hf => ?_)
    · refine r_tin (k := 1) (off := 124) (tgt := 175) X dX6_readStatement_51 hc1 (by decide) (by decide) rfl (by decide) ?_
      exact w_X6_readStatement_b175 X hw (lv_sub hl [0, 1] rfl) hf
    refine r_case hf (fun hc2 hf => ?_) (fun hc2 hf => ?_)
    · refine r_tin (k := 2) (off := 68) (tgt := 119) X dX6_readStatement_51 hc2 (by decide) (by decide) rfl (by decide) ?_
      refine lv_aload_n hx hb dX6_readStatement_119 rfl (lv_at hl 0 rfl) ?_
      refine r_cvv (rest := []) [] X hw (fun ra σa h => c_X6_readGrey l D cy ad bs F σ202 ra σa  h) sh_13 rfl (by decide) rfl km_X6_readGrey kv_X6_readGrey lm_X6_73 dX6_readStatement_120 hl.1 rfl rfl (Nat.le_of_ble_eq_true rfl) ⟨by decide, by decide⟩ ⟨Nat.zero_le _, Nat.zero_le _⟩ hf (fun r205 σ206 _ hf H locs hw => ?_)
      refine lv_goto (tgt := 180) hx hb dX6_readStatement_123 (by decide) ?_
      exact w_X6_readStatement_b180 X hw (lv_sub hl [0] rfl) hf
    refine r_case hf (fun hc3 hf => ?_) (fun hc3 hf => ?_)
    · refine r_tin (k := 3) (off := 75) (tgt := 126) X dX6_readStatement_51 hc3 (by decide) (by decide) rfl (by decide) ?_
      refine lv_aload_n hx hb dX6_readStatement_126 rfl (lv_at hl 0 rfl) ?_
      refine r_cvv (rest := []) [] X hw (fun ra σa h => c_X6_readBox l D cy ad bs F σ202 ra σa  h) sh_13 rfl (by decide) rfl km_X6_readBox kv_X6_readBox lm_X6_76 dX6_readStatement_127 hl.1 rfl rfl (Nat.le_of_ble_eq_true rfl) ⟨by decide, by decide⟩ ⟨Nat.zero_le _, Nat.zero_le _⟩ hf (fun r207 σ208 _ hf H locs hw => ?_)
      refine lv_goto (tgt := 180) hx hb dX6_readStatement_130 (by decide) ?_
      exact w_X6_readStatement_b180 X hw (lv_sub hl [0] rfl) hf
    refine r_case hf (fun hc4 hf => ?_) (fun hc4 hf => ?_)
    · refine r_tin (k := 4) (off := 124) (tgt := 175) X dX6_readStatement_51 hc4 (by decide) (by decide) rfl (by decide) ?_
      exact w_X6_readStatement_b175 X hw (lv_sub hl [0, 1] rfl) hf
    refine r_case hf (fun hc5 hf => ?_) (fun hc5 hf => ?_)
    · refine r_tin (k := 5) (off := 124) (tgt := 175) X dX6_readStatement_51 hc5 (by decide) (by decide) rfl (by decide) ?_
      exact w_X6_readStatement_b175 X hw (lv_sub hl [0, 1] rfl) hf
    refine r_case hf (fun hc6 hf => ?_) (fun hc6 hf => ?_)
    · refine r_tin (k := 6) (off := 82) (tgt := 133) X dX6_readStatement_51 hc6 (by decide) (by decide) rfl (by decide) ?_
      refine lv_aload_n hx hb dX6_readStatement_133 rfl (lv_at hl 0 rfl) ?_
      refine r_cvv (rest := []) [] X hw (fun ra σa h => c_X6_readEyes l D cy ad bs F σ202 ra σa  h) sh_13 rfl (by decide) rfl km_X6_readEyes kv_X6_readEyes lm_X6_79 dX6_readStatement_134 hl.1 rfl rfl (Nat.le_of_ble_eq_true rfl) ⟨by decide, by decide⟩ ⟨Nat.zero_le _, Nat.zero_le _⟩ hf (fun r209 σ210 _ hf H locs hw => ?_)
      refine lv_goto (tgt := 180) hx hb dX6_readStatement_137 (by decide) ?_
      exact w_X6_readStatement_b180 X hw (lv_sub hl [0] rfl) hf
    refine r_case hf (fun hc7 hf => ?_) (fun hc7 hf => ?_)
    · refine r_tin (k := 7) (off := 124) (tgt := 175) X dX6_readStatement_51 hc7 (by decide) (by decide) rfl (by decide) ?_
      exact w_X6_readStatement_b175 X hw (lv_sub hl [0, 1] rfl) hf
    refine r_case hf (fun hc8 hf => ?_) (fun hc8 hf => ?_)
    · refine r_tin (k := 8) (off := 124) (tgt := 175) X dX6_readStatement_51 hc8 (by decide) (by decide) rfl (by decide) ?_
      exact w_X6_readStatement_b175 X hw (lv_sub hl [0, 1] rfl) hf
    refine r_case hf (fun hc9 hf => ?_) (fun hc9 hf => ?_)
    · refine r_tin (k := 9) (off := 89) (tgt := 140) X dX6_readStatement_51 hc9 (by decide) (by decide) rfl (by decide) ?_
      refine lv_aload_n hx hb dX6_readStatement_140 rfl (lv_at hl 0 rfl) ?_
      refine r_cvv (rest := []) [] X hw (fun ra σa h => c_X6_readBias l D cy ad bs F σ202 ra σa  h) sh_13 rfl (by decide) rfl km_X6_readBias kv_X6_readBias lm_X6_82 dX6_readStatement_141 hl.1 rfl rfl (Nat.le_of_ble_eq_true rfl) ⟨by decide, by decide⟩ ⟨Nat.zero_le _, Nat.zero_le _⟩ hf (fun r211 σ212 _ hf H locs hw => ?_)
      refine lv_goto (tgt := 180) hx hb dX6_readStatement_144 (by decide) ?_
      exact w_X6_readStatement_b180 X hw (lv_sub hl [0] rfl) hf
    refine r_case hf (fun hc10 hf => ?_) (fun hc10 hf => ?_)
    · refine r_tin (k := 10) (off := 96) (tgt := 147) X dX6_readStatement_51 hc10 (by decide) (by decide) rfl (by decide) ?_
      refine lv_aload_n hx hb dX6_readStatement_147 rfl (lv_at hl 0 rfl) ?_
      refine r_getr 19 X hw sh_13 fd_6_1 rfl rfl lf_X6_25 dX6_readStatement_148 ?_
      refine lv_aload_n hx hb dX6_readStatement_151 rfl (lv_at hl 0 rfl) ?_
      refine r_getp X hw sh_13 fd_6_2 rfl lf_X6_29 dX6_readStatement_152 hf (fun hg213 hf => ?_)
      refine r_cvv (rest := []) [.ref (ad (σ202 13 2).toNat)] X hw (fun ra σa h => c_X1_readSteers l D cy ad bs F (σ202 13 2).toNat σ202 ra σa (mPlan_z hg213) h) sh_19 rfl (by decide) rfl km_X1_readSteers kv_X1_readSteers lm_X6_85 dX6_readStatement_155 hl.1 rfl rfl (Nat.le_of_ble_eq_true rfl) ⟨by decide, by decide⟩ ⟨Nat.zero_le _, Nat.zero_le _⟩ hf (fun r214 σ215 _ hf H locs hw => ?_)
      refine lv_goto (tgt := 180) hx hb dX6_readStatement_158 (by decide) ?_
      exact w_X6_readStatement_b180 X hw (lv_sub hl [0] rfl) hf
    refine r_case hf (fun hc11 hf => ?_) (fun hc11 hf => ?_)
    · refine r_tin (k := 11) (off := 110) (tgt := 161) X dX6_readStatement_51 hc11 (by decide) (by decide) rfl (by decide) ?_
      refine lv_aload_n hx hb dX6_readStatement_161 rfl (lv_at hl 0 rfl) ?_
      refine r_getr 19 X hw sh_13 fd_6_1 rfl rfl lf_X6_25 dX6_readStatement_162 ?_
      refine lv_aload_n hx hb dX6_readStatement_165 rfl (lv_at hl 0 rfl) ?_
      refine r_getp X hw sh_13 fd_6_2 rfl lf_X6_29 dX6_readStatement_166 hf (fun hg216 hf => ?_)
      refine r_cvv (rest := []) [.ref (ad (σ202 13 2).toNat)] X hw (fun ra σa h => c_X1_readGoes l D cy ad bs F (σ202 13 2).toNat σ202 ra σa (mPlan_z hg216) h) sh_19 rfl (by decide) rfl km_X1_readGoes kv_X1_readGoes lm_X6_89 dX6_readStatement_169 hl.1 rfl rfl (Nat.le_of_ble_eq_true rfl) ⟨by decide, by decide⟩ ⟨Nat.zero_le _, Nat.zero_le _⟩ hf (fun r217 σ218 _ hf H locs hw => ?_)
      refine lv_goto (tgt := 180) hx hb dX6_readStatement_172 (by decide) ?_
      exact w_X6_readStatement_b180 X hw (lv_sub hl [0] rfl) hf
    refine r_tout (tgt := 175) X dX6_readStatement_51 (by omega) (by decide) ?_
    exact w_X6_readStatement_b175 X hw (lv_sub hl [0, 1] rfl) hf
  · refine lv_aload_n hx hb dX6_readStatement_36 rfl (lv_at hl 0 rfl) ?_
    refine r_getr 14 X hw sh_13 fd_6_0 rfl rfl lf_X6_14 dX6_readStatement_37 ?_
    refine lv_iconst (v := mI 1) hx hb dX6_readStatement_40 rfl ?_
    refine r_cvv (rest := []) [.int (mI 1)] X hw (fun ra σa h => c_X8_refuseHere l D cy ad bs F 1 σ ra σa  h) sh_14 rfl (by decide) rfl km_X8_refuseHere kv_X8_refuseHere lm_X6_63 dX6_readStatement_41 hl.1 rfl rfl (Nat.le_of_ble_eq_true rfl) ⟨by decide, by decide⟩ ⟨Nat.zero_le _, Nat.zero_le _⟩ hf (fun r219 σ220 _ hf H locs hw => ?_)
    exact r_vret X hw dX6_readStatement_44 hf
def g_X6_readStatement_b22 (F : Nat)  (x1 t0 : Int) (σ : mMem) : mRs := if ¬ mw t0 = 0 then (g_X6_readStatement_b33 F t0 x1 0 σ) else (g_X6_readStatement_b33 F t0 x1 1 σ)
set_option maxRecDepth 100000 in
set_option maxHeartbeats 4000000 in
theorem w_X6_readStatement_b22 {p : Program} {l : Launch} {e : Env} {s : State} {m : MethodId} {args : Array Value} {below : List Frame} {meth : Method} {c : Code} {D : va_G} {cy : Nat → ClassId} {ad : Nat → Nat} {bs : Nat} {F : Nat}  (X : mCx p m c cX6_readStatement 3 s args RX6 meth D cy none)  {r : Int} {σ' : mMem}   {x1 t0 : Int} {σ : mMem} {H : Heap} {locs : List Loc} {ls : Array Slot} (hw : mWd D cy ad bs true mN σ s.heap H locs) (hl : lv_has ls 3 [(0, .ref (ad 13)), (1, .int (mI x1))]) (hf : g_X6_readStatement_b22 F x1 t0 σ = some (r, σ')) : mGv p l e 96 s m args below meth c D cy ad bs σ' H locs (F0 m 22 ls [.int (mI t0)]) := by
  obtain ⟨⟨hx, hb, -, -, -⟩, -⟩ := id X
  unfold g_X6_readStatement_b22 at hf
  refine lv_istore_n (lv' := [(2, .int (mI t0)), (0, .ref (ad 13)), (1, .int (mI x1))]) hx hb dX6_readStatement_22 rfl hl (by decide) rfl (fun ls hl => ?_)
  refine lv_iload_n hx hb dX6_readStatement_23 rfl (lv_at hl 2 rfl) ?_
  refine lv_iload_n hx hb dX6_readStatement_24 rfl (lv_at hl 0 rfl) ?_
  refine r_if_ne (tgt := 32) X dX6_readStatement_25 (by decide) hf (fun hc hf => ?_) (fun hc hf => ?_)
  · refine lv_iconst (v := mI 0) hx hb dX6_readStatement_32 rfl ?_
    exact w_X6_readStatement_b33 X hw (lv_sub hl [1, 0] rfl) hf
  · refine lv_iconst (v := mI 1) hx hb dX6_readStatement_28 rfl ?_
    refine lv_goto (tgt := 33) hx hb dX6_readStatement_29 (by decide) ?_
    exact w_X6_readStatement_b33 X hw (lv_sub hl [1, 0] rfl) hf
def g_X6_readStatement (F : Nat) (x1 : Int) (σ : mMem) : mRs := if ¬ mw (σ 14 7) = mw 2 then (g_X6_readStatement_b22 F x1 (-1) σ) else (g_X6_readStatement_b22 F x1 (σ 14 9) σ)
set_option maxRecDepth 100000 in
set_option maxHeartbeats 4000000 in
theorem c_X6_readStatement (l : Launch) (D : va_G) (cy : Nat → ClassId) (ad : Nat → Nat) (bs : Nat) (F : Nat)  (x1 : Int) (σ : mMem) (r : Int) (σ' : mMem)  (hf : g_X6_readStatement F x1 σ = some (r, σ')) : mCv l D cy ad bs yX6_readStatement cX6_readStatement 3 none 96 [.ref (ad 13), .int (mI x1)] σ σ' := by
  refine mCv.of (lv := [(0, .ref (ad 13)), (1, .int (mI x1))]) km_X6_readStatement.2.2.2.2.2 (Nat.le_of_ble_eq_true rfl) rfl (fun p e s m args below meth c H locs ls X hw hl => ?_)
  obtain ⟨⟨hx, hb, -, -, -⟩, -⟩ := id X
  unfold g_X6_readStatement at hf
  refine lv_aload_n hx hb dX6_readStatement_0 rfl (lv_at hl 0 rfl) ?_
  refine r_getr 14 X hw sh_13 fd_6_0 rfl rfl lf_X6_14 dX6_readStatement_1 ?_
  refine r_geti X hw sh_14 fd_8_7 rfl lf_X6_56 dX6_readStatement_4 ?_
  refine lv_iconst (v := mI 2) hx hb dX6_readStatement_7 rfl ?_
  refine r_icmp_ne (tgt := 21) X dX6_readStatement_8 (by decide) hf (fun hc hf => ?_) (fun hc hf => ?_)
  · refine lv_iconst (v := mI (-1)) hx hb dX6_readStatement_21 rfl ?_
    exact w_X6_readStatement_b22 X hw (lv_sub hl [0, 1] rfl) hf
  · refine lv_aload_n hx hb dX6_readStatement_11 rfl (lv_at hl 0 rfl) ?_
    refine r_getr 14 X hw sh_13 fd_6_0 rfl rfl lf_X6_14 dX6_readStatement_12 ?_
    refine r_geti X hw sh_14 fd_8_9 rfl lf_X6_60 dX6_readStatement_15 ?_
    refine lv_goto (tgt := 22) hx hb dX6_readStatement_18 (by decide) ?_
    exact w_X6_readStatement_b22 X hw (lv_sub hl [0, 1] rfl) hf
def g_X8_markOwnWord_b23 (F : Nat)  (σ : mMem) : mRs := some (0, σ)
set_option maxRecDepth 100000 in
set_option maxHeartbeats 4000000 in
theorem w_X8_markOwnWord_b23 {p : Program} {l : Launch} {e : Env} {s : State} {m : MethodId} {args : Array Value} {below : List Frame} {meth : Method} {c : Code} {D : va_G} {cy : Nat → ClassId} {ad : Nat → Nat} {bs : Nat} {F : Nat}  (X : mCx p m c cX8_markOwnWord 3 s args RX8 meth D cy none)  {r : Int} {σ' : mMem}    {σ : mMem} {H : Heap} {locs : List Loc} {ls : Array Slot} (hw : mWd D cy ad bs true mN σ s.heap H locs) (hl : lv_has ls 3 [(0, .ref (ad 14))]) (hf : g_X8_markOwnWord_b23 F  σ = some (r, σ')) : mGv p l e 1 s m args below meth c D cy ad bs σ' H locs (F0 m 23 ls []) := by
  obtain ⟨⟨hx, hb, -, -, -⟩, -⟩ := id X
  unfold g_X8_markOwnWord_b23 at hf
  exact r_vret X hw dX8_markOwnWord_23 hf
def g_X8_markOwnWord_b71 (F : Nat) (k26 : Int → Int → mMem → mRs) (x1 x2 : Int) (σ : mMem) : mRs := k26 x1 (x2 + 1) σ
set_option maxRecDepth 100000 in
set_option maxHeartbeats 4000000 in
theorem w_X8_markOwnWord_b71 {p : Program} {l : Launch} {e : Env} {s : State} {m : MethodId} {args : Array Value} {below : List Frame} {meth : Method} {c : Code} {D : va_G} {cy : Nat → ClassId} {ad : Nat → Nat} {bs : Nat} {F : Nat}  (X : mCx p m c cX8_markOwnWord 3 s args RX8 meth D cy none)  {r : Int} {σ' : mMem} {k26 : Int → Int → mMem → mRs} (hk26 : ∀ (x1 x2 : Int) (σ : mMem) (H : Heap) (locs : List Loc) (ls : Array Slot), mWd D cy ad bs true mN σ s.heap H locs → lv_has ls 3 [(0, .ref (ad 14)), (1, .int (mI x1)), (2, .int (mI x2))] → k26 x1 x2 σ = some (r, σ') → mGv p l e 1 s m args below meth c D cy ad bs σ' H locs (F0 m 26 ls [])) {x1 x2 : Int} {σ : mMem} {H : Heap} {locs : List Loc} {ls : Array Slot} (hw : mWd D cy ad bs true mN σ s.heap H locs) (hl : lv_has ls 3 [(0, .ref (ad 14)), (1, .int (mI x1)), (2, .int (mI x2))]) (hf : g_X8_markOwnWord_b71 F k26 x1 x2 σ = some (r, σ')) : mGv p l e 1 s m args below meth c D cy ad bs σ' H locs (F0 m 71 ls []) := by
  obtain ⟨⟨hx, hb, -, -, -⟩, -⟩ := id X
  unfold g_X8_markOwnWord_b71 at hf
  refine lv_iinc (v := mI (x2 + 1)) (lv' := [(2, .int (mI (x2 + 1))), (0, .ref (ad 14)), (1, .int (mI x1))]) hx hb dX8_markOwnWord_71 hl (k := 2) rfl (mI_add _ _) (by decide) rfl (fun ls hl => ?_)
  refine lv_goto (tgt := 26) hx hb dX8_markOwnWord_74 (by decide) ?_
  exact hk26 x1 (x2 + 1) σ _ _ _ hw (lv_sub hl [1, 2, 0] rfl) hf
def g_X8_markOwnWord_h26 (F : Nat)  : Nat → Int → Int → mMem → mRs
  | 0, _, _, _ => none
  | n + 1, x1, x2, σ => if mw 28 ≤ mw x2 then (some (0, σ)) else (if 0 ≤ mw x1 ∧ mw x1 < (1600 : Int) then if ¬ mw (σ 16 (mw x1).toNat) = mw 1 then (g_X8_markOwnWord_b71 F (g_X8_markOwnWord_h26 F n) x1 x2 σ) else (if 0 ≤ mw x2 ∧ mw x2 < (28 : Int) then if 0 ≤ mw x1 ∧ mw x1 < (1600 : Int) then if ¬ mw (σ 15 (mw x2).toNat) = mw (σ 18 (mw x1).toNat) then (g_X8_markOwnWord_b71 F (g_X8_markOwnWord_h26 F n) x1 x2 σ) else (if 0 ≤ mw x1 ∧ mw x1 < (1600 : Int) then mlm (mup σ 16 (mw x1).toNat 2) (fun σ201 => if 0 ≤ mw x1 ∧ mw x1 < (1600 : Int) then mlm (mup σ201 18 (mw x1).toNat x2) (fun σ202 => g_X8_markOwnWord_b71 F (g_X8_markOwnWord_h26 F n) x1 x2 σ202) else none) else none) else none else none) else none)
set_option maxRecDepth 100000 in
set_option maxHeartbeats 4000000 in
theorem w_X8_markOwnWord_h26 {p : Program} {l : Launch} {e : Env} {s : State} {m : MethodId} {args : Array Value} {below : List Frame} {meth : Method} {c : Code} {D : va_G} {cy : Nat → ClassId} {ad : Nat → Nat} {bs : Nat} {F : Nat}  (X : mCx p m c cX8_markOwnWord 3 s args RX8 meth D cy none)  {r : Int} {σ' : mMem}   (n : Nat) : ∀ {x1 x2 : Int} {σ : mMem} {H : Heap} {locs : List Loc} {ls : Array Slot} (_ : mWd D cy ad bs true mN σ s.heap H locs) (_ : lv_has ls 3 [(0, .ref (ad 14)), (1, .int (mI x1)), (2, .int (mI x2))]) (_ : g_X8_markOwnWord_h26 F n x1 x2 σ = some (r, σ')), mGv p l e 1 s m args below meth c D cy ad bs σ' H locs (F0 m 26 ls []) := by
  obtain ⟨⟨hx, hb, -, -, -⟩, -⟩ := id X
  induction n with
  | zero =>
    intro x1 x2 σ H locs ls hw hl hf
    unfold g_X8_markOwnWord_h26 at hf
    cases hf
  | succ n ih =>
    have hk26 : ∀ (x1 x2 : Int) (σ : mMem) (H : Heap) (locs : List Loc) (ls : Array Slot), mWd D cy ad bs true mN σ s.heap H locs → lv_has ls 3 [(0, .ref (ad 14)), (1, .int (mI x1)), (2, .int (mI x2))] → g_X8_markOwnWord_h26 F n x1 x2 σ = some (r, σ') → mGv p l e 1 s m args below meth c D cy ad bs σ' H locs (F0 m 26 ls []) := fun x1 x2 σ H locs ls hw hl hf => ih hw hl hf
    intro x1 x2 σ H locs ls hw hl hf
    unfold g_X8_markOwnWord_h26 at hf
    refine lv_iload_n hx hb dX8_markOwnWord_26 rfl (lv_at hl 2 rfl) ?_
    refine lv_bipush (v := mI 28) hx hb dX8_markOwnWord_27 (by decide) ?_
    refine r_icmp_ge (tgt := 77) X dX8_markOwnWord_29 (by decide) hf (fun hc hf => ?_) (fun hc hf => ?_)
    · exact r_vret X hw dX8_markOwnWord_77 hf
    · refine lv_aload_n hx hb dX8_markOwnWord_32 rfl (lv_at hl 0 rfl) ?_
      refine r_getr 16 X hw sh_14 fd_8_2 rfl rfl lf_X8_17 dX8_markOwnWord_33 ?_
      refine lv_iload_n hx hb dX8_markOwnWord_36 rfl (lv_at hl 1 rfl) ?_
      refine r_iald (1600 : Int) rfl X hw sh_16 dX8_markOwnWord_37 hf (fun hf => ?_)
      refine lv_iconst (v := mI 1) hx hb dX8_markOwnWord_38 rfl ?_
      refine r_icmp_ne (tgt := 71) X dX8_markOwnWord_39 (by decide) hf (fun hc hf => ?_) (fun hc hf => ?_)
      · exact w_X8_markOwnWord_b71 X hk26 hw (lv_sub hl [0, 1, 2] rfl) hf
      · refine lv_aload_n hx hb dX8_markOwnWord_42 rfl (lv_at hl 0 rfl) ?_
        refine r_getr 15 X hw sh_14 fd_8_1 rfl rfl lf_X8_11 dX8_markOwnWord_43 ?_
        refine lv_iload_n hx hb dX8_markOwnWord_46 rfl (lv_at hl 2 rfl) ?_
        refine r_iald (28 : Int) rfl X hw sh_15 dX8_markOwnWord_47 hf (fun hf => ?_)
        refine lv_aload_n hx hb dX8_markOwnWord_48 rfl (lv_at hl 0 rfl) ?_
        refine r_getr 18 X hw sh_14 fd_8_4 rfl rfl lf_X8_23 dX8_markOwnWord_49 ?_
        refine lv_iload_n hx hb dX8_markOwnWord_52 rfl (lv_at hl 1 rfl) ?_
        refine r_iald (1600 : Int) rfl X hw sh_18 dX8_markOwnWord_53 hf (fun hf => ?_)
        refine r_icmp_ne (tgt := 71) X dX8_markOwnWord_54 (by decide) hf (fun hc hf => ?_) (fun hc hf => ?_)
        · exact w_X8_markOwnWord_b71 X hk26 hw (lv_sub hl [0, 1, 2] rfl) hf
        · refine lv_aload_n hx hb dX8_markOwnWord_57 rfl (lv_at hl 0 rfl) ?_
          refine r_getr 16 X hw sh_14 fd_8_2 rfl rfl lf_X8_17 dX8_markOwnWord_58 ?_
          refine lv_iload_n hx hb dX8_markOwnWord_61 rfl (lv_at hl 1 rfl) ?_
          refine lv_iconst (v := mI 2) hx hb dX8_markOwnWord_62 rfl ?_
          refine r_iast (1600 : Int) rfl X hw sh_16 dX8_markOwnWord_63 hf (fun hf H locs hw => ?_)
          refine r_mem hf hw (fun σ201 hw hf => ?_)
          refine lv_aload_n hx hb dX8_markOwnWord_64 rfl (lv_at hl 0 rfl) ?_
          refine r_getr 18 X hw sh_14 fd_8_4 rfl rfl lf_X8_23 dX8_markOwnWord_65 ?_
          refine lv_iload_n hx hb dX8_markOwnWord_68 rfl (lv_at hl 1 rfl) ?_
          refine lv_iload_n hx hb dX8_markOwnWord_69 rfl (lv_at hl 2 rfl) ?_
          refine r_iast (1600 : Int) rfl X hw sh_18 dX8_markOwnWord_70 hf (fun hf H locs hw => ?_)
          refine r_mem hf hw (fun σ202 hw hf => ?_)
          exact w_X8_markOwnWord_b71 X hk26 hw (lv_sub hl [0, 1, 2] rfl) hf
def g_X8_markOwnWord (F : Nat) (x1 : Int) (σ : mMem) : mRs := if mw x1 < 0 then (g_X8_markOwnWord_b23 F σ) else (if mw 1600 ≤ mw x1 then (g_X8_markOwnWord_b23 F σ) else (if 0 ≤ mw x1 ∧ mw x1 < (1600 : Int) then if mw (σ 16 (mw x1).toNat) = mw 1 then (g_X8_markOwnWord_h26 F F x1 0 σ) else (g_X8_markOwnWord_b23 F σ) else none))
set_option maxRecDepth 100000 in
set_option maxHeartbeats 4000000 in
theorem c_X8_markOwnWord (l : Launch) (D : va_G) (cy : Nat → ClassId) (ad : Nat → Nat) (bs : Nat) (F : Nat)  (x1 : Int) (σ : mMem) (r : Int) (σ' : mMem)  (hf : g_X8_markOwnWord F x1 σ = some (r, σ')) : mCv l D cy ad bs yX8_markOwnWord cX8_markOwnWord 3 none 1 [.ref (ad 14), .int (mI x1)] σ σ' := by
  refine mCv.of (lv := [(0, .ref (ad 14)), (1, .int (mI x1))]) km_X8_markOwnWord.2.2.2.2.2 (Nat.le_of_ble_eq_true rfl) rfl (fun p e s m args below meth c H locs ls X hw hl => ?_)
  obtain ⟨⟨hx, hb, -, -, -⟩, -⟩ := id X
  unfold g_X8_markOwnWord at hf
  refine lv_iload_n hx hb dX8_markOwnWord_0 rfl (lv_at hl 1 rfl) ?_
  refine r_if_lt (tgt := 23) X dX8_markOwnWord_1 (by decide) hf (fun hc hf => ?_) (fun hc hf => ?_)
  · exact w_X8_markOwnWord_b23 X hw (lv_sub hl [0] rfl) hf
  · refine lv_iload_n hx hb dX8_markOwnWord_4 rfl (lv_at hl 1 rfl) ?_
    refine lv_aload_n hx hb dX8_markOwnWord_5 rfl (lv_at hl 0 rfl) ?_
    refine r_getr 16 X hw sh_14 fd_8_2 rfl rfl lf_X8_17 dX8_markOwnWord_6 ?_
    refine r_ileni (1600 : Int) rfl X hw sh_16 dX8_markOwnWord_9 ?_
    refine r_icmp_ge (tgt := 23) X dX8_markOwnWord_10 (by decide) hf (fun hc hf => ?_) (fun hc hf => ?_)
    · exact w_X8_markOwnWord_b23 X hw (lv_sub hl [0] rfl) hf
    · refine lv_aload_n hx hb dX8_markOwnWord_13 rfl (lv_at hl 0 rfl) ?_
      refine r_getr 16 X hw sh_14 fd_8_2 rfl rfl lf_X8_17 dX8_markOwnWord_14 ?_
      refine lv_iload_n hx hb dX8_markOwnWord_17 rfl (lv_at hl 1 rfl) ?_
      refine r_iald (1600 : Int) rfl X hw sh_16 dX8_markOwnWord_18 hf (fun hf => ?_)
      refine lv_iconst (v := mI 1) hx hb dX8_markOwnWord_19 rfl ?_
      refine r_icmp_eq (tgt := 24) X dX8_markOwnWord_20 (by decide) hf (fun hc hf => ?_) (fun hc hf => ?_)
      · refine lv_iconst (v := mI 0) hx hb dX8_markOwnWord_24 rfl ?_
        refine lv_istore_n (lv' := [(2, .int (mI 0)), (0, .ref (ad 14)), (1, .int (mI x1))]) hx hb dX8_markOwnWord_25 rfl hl (by decide) rfl (fun ls hl => ?_)
        exact w_X8_markOwnWord_h26 X _ hw (lv_sub hl [1, 2, 0] rfl) hf
      · exact w_X8_markOwnWord_b23 X hw (lv_sub hl [0] rfl) hf
def g_X8_add_b59 (F : Nat)  (σ : mMem) : mRs := some (0, σ)
set_option maxRecDepth 100000 in
set_option maxHeartbeats 4000000 in
theorem w_X8_add_b59 {p : Program} {l : Launch} {e : Env} {s : State} {m : MethodId} {args : Array Value} {below : List Frame} {meth : Method} {c : Code} {D : va_G} {cy : Nat → ClassId} {ad : Nat → Nat} {bs : Nat} {F : Nat}  (X : mCx p m c cX8_add 4 s args RX8 meth D cy none)  {r : Int} {σ' : mMem}    {σ : mMem} {H : Heap} {locs : List Loc} {ls : Array Slot} (hw : mWd D cy ad bs true mN σ s.heap H locs) (hl : lv_has ls 4 [(0, .ref (ad 14))]) (hf : g_X8_add_b59 F  σ = some (r, σ')) : mGv p l e 1 s m args below meth c D cy ad bs σ' H locs (F0 m 59 ls []) := by
  obtain ⟨⟨hx, hb, -, -, -⟩, -⟩ := id X
  unfold g_X8_add_b59 at hf
  exact r_vret X hw dX8_add_59 hf
def g_X8_add (F : Nat) (x1 x2 x3 : Int) (σ : mMem) : mRs := if mw (σ 14 5) < 0 then (g_X8_add_b59 F σ) else (if mw 1600 ≤ mw (σ 14 5) then (g_X8_add_b59 F σ) else (if 0 ≤ mw (σ 14 5) ∧ mw (σ 14 5) < (1600 : Int) then mlm (mup σ 16 (mw (σ 14 5)).toNat x1) (fun σ1 => if 0 ≤ mw (σ1 14 5) ∧ mw (σ1 14 5) < (1600 : Int) then mlm (mup σ1 17 (mw (σ1 14 5)).toNat x2) (fun σ2 => if 0 ≤ mw (σ2 14 5) ∧ mw (σ2 14 5) < (1600 : Int) then mlm (mup σ2 18 (mw (σ2 14 5)).toNat x3) (fun σ3 => mlm (mup σ3 14 5 ((σ3 14 5) + 1)) (fun σ4 => g_X8_add_b59 F σ4)) else none) else none) else none))
set_option maxRecDepth 100000 in
set_option maxHeartbeats 4000000 in
theorem c_X8_add (l : Launch) (D : va_G) (cy : Nat → ClassId) (ad : Nat → Nat) (bs : Nat) (F : Nat)  (x1 x2 x3 : Int) (σ : mMem) (r : Int) (σ' : mMem)  (hf : g_X8_add F x1 x2 x3 σ = some (r, σ')) : mCv l D cy ad bs yX8_add cX8_add 4 none 1 [.ref (ad 14), .int (mI x1), .int (mI x2), .int (mI x3)] σ σ' := by
  refine mCv.of (lv := [(0, .ref (ad 14)), (1, .int (mI x1)), (2, .int (mI x2)), (3, .int (mI x3))]) km_X8_add.2.2.2.2.2 (Nat.le_of_ble_eq_true rfl) rfl (fun p e s m args below meth c H locs ls X hw hl => ?_)
  obtain ⟨⟨hx, hb, -, -, -⟩, -⟩ := id X
  unfold g_X8_add at hf
  refine lv_aload_n hx hb dX8_add_0 rfl (lv_at hl 0 rfl) ?_
  refine r_geti X hw sh_14 fd_8_5 rfl lf_X8_48 dX8_add_1 ?_
  refine r_if_lt (tgt := 59) X dX8_add_4 (by decide) hf (fun hc hf => ?_) (fun hc hf => ?_)
  · exact w_X8_add_b59 X hw (lv_sub hl [0] rfl) hf
  · refine lv_aload_n hx hb dX8_add_7 rfl (lv_at hl 0 rfl) ?_
    refine r_geti X hw sh_14 fd_8_5 rfl lf_X8_48 dX8_add_8 ?_
    refine lv_aload_n hx hb dX8_add_11 rfl (lv_at hl 0 rfl) ?_
    refine r_getr 16 X hw sh_14 fd_8_2 rfl rfl lf_X8_17 dX8_add_12 ?_
    refine r_ileni (1600 : Int) rfl X hw sh_16 dX8_add_15 ?_
    refine r_icmp_ge (tgt := 59) X dX8_add_16 (by decide) hf (fun hc hf => ?_) (fun hc hf => ?_)
    · exact w_X8_add_b59 X hw (lv_sub hl [0] rfl) hf
    · refine lv_aload_n hx hb dX8_add_19 rfl (lv_at hl 0 rfl) ?_
      refine r_getr 16 X hw sh_14 fd_8_2 rfl rfl lf_X8_17 dX8_add_20 ?_
      refine lv_aload_n hx hb dX8_add_23 rfl (lv_at hl 0 rfl) ?_
      refine r_geti X hw sh_14 fd_8_5 rfl lf_X8_48 dX8_add_24 ?_
      refine lv_iload_n hx hb dX8_add_27 rfl (lv_at hl 1 rfl) ?_
      refine r_iast (1600 : Int) rfl X hw sh_16 dX8_add_28 hf (fun hf H locs hw => ?_)
      refine r_mem hf hw (fun σ1 hw hf => ?_)
      refine lv_aload_n hx hb dX8_add_29 rfl (lv_at hl 0 rfl) ?_
      refine r_getr 17 X hw sh_14 fd_8_3 rfl rfl lf_X8_20 dX8_add_30 ?_
      refine lv_aload_n hx hb dX8_add_33 rfl (lv_at hl 0 rfl) ?_
      refine r_geti X hw sh_14 fd_8_5 rfl lf_X8_48 dX8_add_34 ?_
      refine lv_iload_n hx hb dX8_add_37 rfl (lv_at hl 2 rfl) ?_
      refine r_iast (1600 : Int) rfl X hw sh_17 dX8_add_38 hf (fun hf H locs hw => ?_)
      refine r_mem hf hw (fun σ2 hw hf => ?_)
      refine lv_aload_n hx hb dX8_add_39 rfl (lv_at hl 0 rfl) ?_
      refine r_getr 18 X hw sh_14 fd_8_4 rfl rfl lf_X8_23 dX8_add_40 ?_
      refine lv_aload_n hx hb dX8_add_43 rfl (lv_at hl 0 rfl) ?_
      refine r_geti X hw sh_14 fd_8_5 rfl lf_X8_48 dX8_add_44 ?_
      refine lv_iload_n hx hb dX8_add_47 rfl (lv_at hl 3 rfl) ?_
      refine r_iast (1600 : Int) rfl X hw sh_18 dX8_add_48 hf (fun hf H locs hw => ?_)
      refine r_mem hf hw (fun σ3 hw hf => ?_)
      refine lv_aload_n hx hb dX8_add_49 rfl (lv_at hl 0 rfl) ?_
      refine lv_dup hx hb dX8_add_50 rfl ?_
      refine r_geti X hw sh_14 fd_8_5 rfl lf_X8_48 dX8_add_51 ?_
      refine lv_iconst (v := mI 1) hx hb dX8_add_54 rfl ?_
      refine r_iadd X dX8_add_55 ?_
      refine r_puti X hw sh_14 fd_8_5 fp_8_5 rfl rfl lf_X8_48 dX8_add_56 (fun H locs hw => ?_)
      refine r_mem hf hw (fun σ4 hw hf => ?_)
      exact w_X8_add_b59 X hw (lv_sub hl [0] rfl) hf
def g_X8_addDigit_b20 (F : Nat)  (σ : mMem) : mRs := if mw 0 = 0 ∨ mw 0 = 1 then some (0, σ) else none
set_option maxRecDepth 100000 in
set_option maxHeartbeats 4000000 in
theorem w_X8_addDigit_b20 {p : Program} {l : Launch} {e : Env} {s : State} {m : MethodId} {args : Array Value} {below : List Frame} {meth : Method} {c : Code} {D : va_G} {cy : Nat → ClassId} {ad : Nat → Nat} {bs : Nat} {F : Nat}  (X : mCx p m c cX8_addDigit 5 s args RX8 meth D cy (some .boolean))  {r : Int} {σ' : mMem}    {σ : mMem} {H : Heap} {locs : List Loc} {ls : Array Slot} (hw : mWd D cy ad bs true mN σ s.heap H locs) (hl : lv_has ls 5 [(0, .ref (ad 14))]) (hf : g_X8_addDigit_b20 F  σ = some (r, σ')) : mGi p l e 1 s m args below meth c D cy ad bs r σ' H locs (F0 m 20 ls []) := by
  obtain ⟨⟨hx, hb, -, -, -⟩, -⟩ := id X
  unfold g_X8_addDigit_b20 at hf
  refine lv_iconst (v := mI 0) hx hb dX8_addDigit_20 rfl ?_
  exact r_zret X hw dX8_addDigit_21 hf
def g_X8_addDigit_b85 (F : Nat)  (x4 t0 t1 : Int) (σ : mMem) : mRs := if 0 ≤ mw t0 ∧ mw t0 < (1600 : Int) then mlm (mup σ 18 (mw t0).toNat t1) (fun σ403 => if mw x4 = 0 ∨ mw x4 = 1 then some (x4, σ403) else none) else none
set_option maxRecDepth 100000 in
set_option maxHeartbeats 4000000 in
theorem w_X8_addDigit_b85 {p : Program} {l : Launch} {e : Env} {s : State} {m : MethodId} {args : Array Value} {below : List Frame} {meth : Method} {c : Code} {D : va_G} {cy : Nat → ClassId} {ad : Nat → Nat} {bs : Nat} {F : Nat}  (X : mCx p m c cX8_addDigit 5 s args RX8 meth D cy (some .boolean))  {r : Int} {σ' : mMem}   {x4 t0 t1 : Int} {σ : mMem} {H : Heap} {locs : List Loc} {ls : Array Slot} (hw : mWd D cy ad bs true mN σ s.heap H locs) (hl : lv_has ls 5 [(0, .ref (ad 14)), (4, .int (mI x4))]) (hf : g_X8_addDigit_b85 F x4 t0 t1 σ = some (r, σ')) : mGi p l e 1 s m args below meth c D cy ad bs r σ' H locs (F0 m 85 ls [.int (mI t1), .int (mI t0), .ref (ad 18)]) := by
  obtain ⟨⟨hx, hb, -, -, -⟩, -⟩ := id X
  unfold g_X8_addDigit_b85 at hf
  refine r_iast (1600 : Int) rfl X hw sh_18 dX8_addDigit_85 hf (fun hf H locs hw => ?_)
  refine r_mem hf hw (fun σ403 hw hf => ?_)
  refine lv_iload hx hb dX8_addDigit_86 (lv_at hl 1 rfl) ?_
  exact r_zret X hw dX8_addDigit_88 hf
def g_X8_addDigit_b56 (F : Nat)  (x1 x2 x3 x4 t0 t1 : Int) (σ : mMem) : mRs := if 0 ≤ mw t0 ∧ mw t0 < (1600 : Int) then mlm (mup σ 16 (mw t0).toNat t1) (fun σ302 => if mw x4 = 0 then (g_X8_addDigit_b85 F x4 x3 x1 σ302) else (if 0 ≤ mw x3 ∧ mw x3 < (1600 : Int) then g_X8_addDigit_b85 F x4 x3 (((10 * (σ302 18 (mw x3).toNat)) + x2) - 48) σ302 else none)) else none
set_option maxRecDepth 100000 in
set_option maxHeartbeats 4000000 in
theorem w_X8_addDigit_b56 {p : Program} {l : Launch} {e : Env} {s : State} {m : MethodId} {args : Array Value} {below : List Frame} {meth : Method} {c : Code} {D : va_G} {cy : Nat → ClassId} {ad : Nat → Nat} {bs : Nat} {F : Nat}  (X : mCx p m c cX8_addDigit 5 s args RX8 meth D cy (some .boolean))  {r : Int} {σ' : mMem}   {x1 x2 x3 x4 t0 t1 : Int} {σ : mMem} {H : Heap} {locs : List Loc} {ls : Array Slot} (hw : mWd D cy ad bs true mN σ s.heap H locs) (hl : lv_has ls 5 [(0, .ref (ad 14)), (1, .int (mI x1)), (2, .int (mI x2)), (3, .int (mI x3)), (4, .int (mI x4))]) (hf : g_X8_addDigit_b56 F x1 x2 x3 x4 t0 t1 σ = some (r, σ')) : mGi p l e 1 s m args below meth c D cy ad bs r σ' H locs (F0 m 56 ls [.int (mI t1), .int (mI t0), .ref (ad 16)]) := by
  obtain ⟨⟨hx, hb, -, -, -⟩, -⟩ := id X
  unfold g_X8_addDigit_b56 at hf
  refine r_iast (1600 : Int) rfl X hw sh_16 dX8_addDigit_56 hf (fun hf H locs hw => ?_)
  refine r_mem hf hw (fun σ302 hw hf => ?_)
  refine lv_aload_n hx hb dX8_addDigit_57 rfl (lv_at hl 0 rfl) ?_
  refine r_getr 18 X hw sh_14 fd_8_4 rfl rfl lf_X8_23 dX8_addDigit_58 ?_
  refine lv_iload_n hx hb dX8_addDigit_61 rfl (lv_at hl 3 rfl) ?_
  refine lv_iload hx hb dX8_addDigit_62 (lv_at hl 4 rfl) ?_
  refine r_if_eq (tgt := 84) X dX8_addDigit_64 (by decide) hf (fun hc hf => ?_) (fun hc hf => ?_)
  · refine lv_iload_n hx hb dX8_addDigit_84 rfl (lv_at hl 1 rfl) ?_
    exact w_X8_addDigit_b85 X hw (lv_sub hl [0, 4] rfl) hf
  · refine lv_bipush (v := mI 10) hx hb dX8_addDigit_67 (by decide) ?_
    refine lv_aload_n hx hb dX8_addDigit_69 rfl (lv_at hl 0 rfl) ?_
    refine r_getr 18 X hw sh_14 fd_8_4 rfl rfl lf_X8_23 dX8_addDigit_70 ?_
    refine lv_iload_n hx hb dX8_addDigit_73 rfl (lv_at hl 3 rfl) ?_
    refine r_iald (1600 : Int) rfl X hw sh_18 dX8_addDigit_74 hf (fun hf => ?_)
    refine r_imul X dX8_addDigit_75 ?_
    refine lv_iload_n hx hb dX8_addDigit_76 rfl (lv_at hl 2 rfl) ?_
    refine r_iadd X dX8_addDigit_77 ?_
    refine lv_bipush (v := mI 48) hx hb dX8_addDigit_78 (by decide) ?_
    refine r_isub X dX8_addDigit_80 ?_
    refine lv_goto (tgt := 85) hx hb dX8_addDigit_81 (by decide) ?_
    exact w_X8_addDigit_b85 X hw (lv_sub hl [0, 4] rfl) hf
def g_X8_addDigit_b39 (F : Nat)  (x1 x2 x3 t0 : Int) (σ : mMem) : mRs := if mw t0 = 0 then (g_X8_addDigit_b56 F x1 x2 x3 t0 x3 5 σ) else (g_X8_addDigit_b56 F x1 x2 x3 t0 x3 3 σ)
set_option maxRecDepth 100000 in
set_option maxHeartbeats 4000000 in
theorem w_X8_addDigit_b39 {p : Program} {l : Launch} {e : Env} {s : State} {m : MethodId} {args : Array Value} {below : List Frame} {meth : Method} {c : Code} {D : va_G} {cy : Nat → ClassId} {ad : Nat → Nat} {bs : Nat} {F : Nat}  (X : mCx p m c cX8_addDigit 5 s args RX8 meth D cy (some .boolean))  {r : Int} {σ' : mMem}   {x1 x2 x3 t0 : Int} {σ : mMem} {H : Heap} {locs : List Loc} {ls : Array Slot} (hw : mWd D cy ad bs true mN σ s.heap H locs) (hl : lv_has ls 5 [(0, .ref (ad 14)), (1, .int (mI x1)), (2, .int (mI x2)), (3, .int (mI x3))]) (hf : g_X8_addDigit_b39 F x1 x2 x3 t0 σ = some (r, σ')) : mGi p l e 1 s m args below meth c D cy ad bs r σ' H locs (F0 m 39 ls [.int (mI t0)]) := by
  obtain ⟨⟨hx, hb, -, -, -⟩, -⟩ := id X
  unfold g_X8_addDigit_b39 at hf
  refine lv_istore (lv' := [(4, .int (mI t0)), (0, .ref (ad 14)), (1, .int (mI x1)), (2, .int (mI x2)), (3, .int (mI x3))]) hx hb dX8_addDigit_39 hl (by decide) rfl (fun ls hl => ?_)
  refine lv_aload_n hx hb dX8_addDigit_41 rfl (lv_at hl 1 rfl) ?_
  refine r_getr 16 X hw sh_14 fd_8_2 rfl rfl lf_X8_17 dX8_addDigit_42 ?_
  refine lv_iload_n hx hb dX8_addDigit_45 rfl (lv_at hl 4 rfl) ?_
  refine lv_iload hx hb dX8_addDigit_46 (lv_at hl 0 rfl) ?_
  refine r_if_eq (tgt := 55) X dX8_addDigit_48 (by decide) hf (fun hc hf => ?_) (fun hc hf => ?_)
  · refine lv_iconst (v := mI 5) hx hb dX8_addDigit_55 rfl ?_
    exact w_X8_addDigit_b56 X hw (lv_sub hl [1, 2, 3, 4, 0] rfl) hf
  · refine lv_iconst (v := mI 3) hx hb dX8_addDigit_51 rfl ?_
    refine lv_goto (tgt := 56) hx hb dX8_addDigit_52 (by decide) ?_
    exact w_X8_addDigit_b56 X hw (lv_sub hl [1, 2, 3, 4, 0] rfl) hf
def g_X8_addDigit (F : Nat) (x1 x2 : Int) (σ : mMem) : mRs := mlet ((σ 14 5) - 1) (fun y1 => if mw y1 < 0 then (g_X8_addDigit_b20 F σ) else (if mw y1 < mw 1600 then (if 0 ≤ mw y1 ∧ mw y1 < (1600 : Int) then if mw 4 ≤ mw (x1 - (σ 17 (mw y1).toNat)) then (g_X8_addDigit_b39 F x1 x2 y1 0 σ) else (g_X8_addDigit_b39 F x1 x2 y1 1 σ) else none) else (g_X8_addDigit_b20 F σ)))
set_option maxRecDepth 100000 in
set_option maxHeartbeats 4000000 in
theorem c_X8_addDigit (l : Launch) (D : va_G) (cy : Nat → ClassId) (ad : Nat → Nat) (bs : Nat) (F : Nat)  (x1 x2 : Int) (σ : mMem) (r : Int) (σ' : mMem)  (hf : g_X8_addDigit F x1 x2 σ = some (r, σ')) : mCi l D cy ad bs yX8_addDigit cX8_addDigit 5 (some .boolean) 1 [.ref (ad 14), .int (mI x1), .int (mI x2)] σ r σ' := by
  refine mCi.of (lv := [(0, .ref (ad 14)), (1, .int (mI x1)), (2, .int (mI x2))]) km_X8_addDigit.2.2.2.2.2 (Nat.le_of_ble_eq_true rfl) rfl (fun p e s m args below meth c H locs ls X hw hl => ?_)
  obtain ⟨⟨hx, hb, -, -, -⟩, -⟩ := id X
  unfold g_X8_addDigit at hf
  refine lv_aload_n hx hb dX8_addDigit_0 rfl (lv_at hl 0 rfl) ?_
  refine r_geti X hw sh_14 fd_8_5 rfl lf_X8_48 dX8_addDigit_1 ?_
  refine lv_iconst (v := mI 1) hx hb dX8_addDigit_4 rfl ?_
  refine r_isub X dX8_addDigit_5 ?_
  refine r_leti hf (fun y1 hf => ?_)
  refine lv_istore_n (lv' := [(3, .int (mI y1)), (0, .ref (ad 14)), (1, .int (mI x1)), (2, .int (mI x2))]) hx hb dX8_addDigit_6 rfl hl (by decide) rfl (fun ls hl => ?_)
  refine lv_iload_n hx hb dX8_addDigit_7 rfl (lv_at hl 0 rfl) ?_
  refine r_if_lt (tgt := 20) X dX8_addDigit_8 (by decide) hf (fun hc hf => ?_) (fun hc hf => ?_)
  · exact w_X8_addDigit_b20 X hw (lv_sub hl [1] rfl) hf
  · refine lv_iload_n hx hb dX8_addDigit_11 rfl (lv_at hl 0 rfl) ?_
    refine lv_aload_n hx hb dX8_addDigit_12 rfl (lv_at hl 1 rfl) ?_
    refine r_getr 16 X hw sh_14 fd_8_2 rfl rfl lf_X8_17 dX8_addDigit_13 ?_
    refine r_ileni (1600 : Int) rfl X hw sh_16 dX8_addDigit_16 ?_
    refine r_icmp_lt (tgt := 22) X dX8_addDigit_17 (by decide) hf (fun hc hf => ?_) (fun hc hf => ?_)
    · refine lv_iload_n hx hb dX8_addDigit_22 rfl (lv_at hl 2 rfl) ?_
      refine lv_aload_n hx hb dX8_addDigit_23 rfl (lv_at hl 1 rfl) ?_
      refine r_getr 17 X hw sh_14 fd_8_3 rfl rfl lf_X8_20 dX8_addDigit_24 ?_
      refine lv_iload_n hx hb dX8_addDigit_27 rfl (lv_at hl 0 rfl) ?_
      refine r_iald (1600 : Int) rfl X hw sh_17 dX8_addDigit_28 hf (fun hf => ?_)
      refine r_isub X dX8_addDigit_29 ?_
      refine lv_iconst (v := mI 4) hx hb dX8_addDigit_30 rfl ?_
      refine r_icmp_ge (tgt := 38) X dX8_addDigit_31 (by decide) hf (fun hc hf => ?_) (fun hc hf => ?_)
      · refine lv_iconst (v := mI 0) hx hb dX8_addDigit_38 rfl ?_
        exact w_X8_addDigit_b39 X hw (lv_sub hl [1, 2, 3, 0] rfl) hf
      · refine lv_iconst (v := mI 1) hx hb dX8_addDigit_34 rfl ?_
        refine lv_goto (tgt := 39) hx hb dX8_addDigit_35 (by decide) ?_
        exact w_X8_addDigit_b39 X hw (lv_sub hl [1, 2, 3, 0] rfl) hf
    · exact w_X8_addDigit_b20 X hw (lv_sub hl [1] rfl) hf
