def g_X10_mayPass_b19 (F : Nat) (o : Nat)  (t0 : Int) (σ : mMem) : mRs := if mw t0 = 0 ∨ mw t0 = 1 then some (t0, σ) else none
set_option maxRecDepth 100000 in
set_option maxHeartbeats 4000000 in
theorem w_X10_mayPass_b19 {p : Program} {l : Launch} {e : Env} {s : State} {m : MethodId} {args : Array Value} {below : List Frame} {meth : Method} {c : Code} {D : va_G} {cy : Nat → ClassId} {ad : Nat → Nat} {bs : Nat} {F : Nat} {o : Nat} (X : mCx p m c cX10_mayPass 4 s args RX10 meth D cy (some .boolean)) (ho : mWorld o) {r : Int} {σ' : mMem}   {t0 : Int} {σ : mMem} {H : Heap} {locs : List Loc} {ls : Array Slot} (hw : mWd D cy ad bs true mN σ s.heap H locs) (hl : lv_has ls 4 [(0, .ref (ad o))]) (hf : g_X10_mayPass_b19 F o t0 σ = some (r, σ')) : mGi p l e 3 s m args below meth c D cy ad bs r σ' H locs (F0 m 19 ls [.int (mI t0)]) := by
  obtain ⟨⟨hx, hb, -, -, -⟩, -⟩ := id X
  unfold g_X10_mayPass_b19 at hf
  exact r_zret X hw dX10_mayPass_19 hf
def g_X10_mayPass_b18 (F : Nat) (o : Nat)  (σ : mMem) : mRs := g_X10_mayPass_b19 F o 0 σ
set_option maxRecDepth 100000 in
set_option maxHeartbeats 4000000 in
theorem w_X10_mayPass_b18 {p : Program} {l : Launch} {e : Env} {s : State} {m : MethodId} {args : Array Value} {below : List Frame} {meth : Method} {c : Code} {D : va_G} {cy : Nat → ClassId} {ad : Nat → Nat} {bs : Nat} {F : Nat} {o : Nat} (X : mCx p m c cX10_mayPass 4 s args RX10 meth D cy (some .boolean)) (ho : mWorld o) {r : Int} {σ' : mMem}    {σ : mMem} {H : Heap} {locs : List Loc} {ls : Array Slot} (hw : mWd D cy ad bs true mN σ s.heap H locs) (hl : lv_has ls 4 [(0, .ref (ad o))]) (hf : g_X10_mayPass_b18 F o  σ = some (r, σ')) : mGi p l e 3 s m args below meth c D cy ad bs r σ' H locs (F0 m 18 ls []) := by
  obtain ⟨⟨hx, hb, -, -, -⟩, -⟩ := id X
  unfold g_X10_mayPass_b18 at hf
  refine lv_iconst (v := mI 0) hx hb dX10_mayPass_18 rfl ?_
  exact w_X10_mayPass_b19 X ho hw (lv_sub hl [0] rfl) hf
def g_X10_mayPass (F : Nat) (o : Nat) (x1 x2 x3 : Int) (σ : mMem) : mRs := if mw x1 < mw x2 then (g_X10_mayPass_b18 F o σ) else (mob (g_X10_comingSteps F o x3 σ) (fun r1 σ2 => if mw r1 < mw x1 then (g_X10_mayPass_b18 F o σ2) else (g_X10_mayPass_b19 F o 1 σ2)))
set_option maxRecDepth 100000 in
set_option maxHeartbeats 4000000 in
theorem c_X10_mayPass (l : Launch) (D : va_G) (cy : Nat → ClassId) (ad : Nat → Nat) (bs : Nat) (F : Nat) (o : Nat) (x1 x2 x3 : Int) (σ : mMem) (r : Int) (σ' : mMem) (ho : mWorld o) (hf : g_X10_mayPass F o x1 x2 x3 σ = some (r, σ')) : mCi l D cy ad bs yX10_mayPass cX10_mayPass 4 (some .boolean) 3 [.ref (ad o), .int (mI x1), .int (mI x2), .int (mI x3)] σ r σ' := by
  refine mCi.of (lv := [(0, .ref (ad o)), (1, .int (mI x1)), (2, .int (mI x2)), (3, .int (mI x3))]) km_X10_mayPass.2.2.2.2.2 (Nat.le_of_ble_eq_true rfl) rfl (fun p e s m args below meth c H locs ls X hw hl => ?_)
  obtain ⟨⟨hx, hb, -, -, -⟩, -⟩ := id X
  unfold g_X10_mayPass at hf
  refine lv_iload_n hx hb dX10_mayPass_0 rfl (lv_at hl 1 rfl) ?_
  refine lv_iload_n hx hb dX10_mayPass_1 rfl (lv_at hl 2 rfl) ?_
  refine r_icmp_lt (tgt := 18) X dX10_mayPass_2 (by decide) hf (fun hc hf => ?_) (fun hc hf => ?_)
  · exact w_X10_mayPass_b18 X ho hw (lv_sub hl [0] rfl) hf
  · refine lv_iload_n hx hb dX10_mayPass_5 rfl (lv_at hl 1 rfl) ?_
    refine lv_aload_n hx hb dX10_mayPass_6 rfl (lv_at hl 0 rfl) ?_
    refine lv_iload_n hx hb dX10_mayPass_7 rfl (lv_at hl 3 rfl) ?_
    refine r_cvi (rest := [.int (mI x1)]) [.int (mI x3)] X hw (fun ra σa h => c_X10_comingSteps l D cy ad bs F o x3 σ ra σa ho h) ho.1 rfl (by decide) rfl km_X10_comingSteps kv_X10_comingSteps lm_X10_74 dX10_mayPass_8 hl.1 rfl rfl (Nat.le_of_ble_eq_true rfl) ⟨by decide, by decide⟩ ⟨Nat.zero_le _, Nat.zero_le _⟩ hf (fun r1 σ2 _ hf H locs hw => ?_)
    refine r_icmp_gt (tgt := 18) X dX10_mayPass_11 (by decide) hf (fun hc hf => ?_) (fun hc hf => ?_)
    · exact w_X10_mayPass_b18 X ho hw (lv_sub hl [0] rfl) hf
    · refine lv_iconst (v := mI 1) hx hb dX10_mayPass_14 rfl ?_
      refine lv_goto (tgt := 19) hx hb dX10_mayPass_15 (by decide) ?_
      exact w_X10_mayPass_b19 X ho hw (lv_sub hl [0] rfl) hf
def g_X10_blackCells_b43 (F : Nat) (o : Nat) (k4 : Int → Int → mMem → mRs) (k17 : Int → Int → Int → mMem → mRs) (x2 x3 t0 t1 : Int) (σ : mMem) : mRs := mlet (t0 + t1) (fun y305 => k17 y305 x2 (x3 + 1) σ)
set_option maxRecDepth 100000 in
set_option maxHeartbeats 4000000 in
theorem w_X10_blackCells_b43 {p : Program} {l : Launch} {e : Env} {s : State} {m : MethodId} {args : Array Value} {below : List Frame} {meth : Method} {c : Code} {D : va_G} {cy : Nat → ClassId} {ad : Nat → Nat} {bs : Nat} {F : Nat} {o : Nat} (X : mCx p m c cX10_blackCells 4 s args RX10 meth D cy (some .int)) (ho : mWorld o) {r : Int} {σ' : mMem} {k4 : Int → Int → mMem → mRs} {k17 : Int → Int → Int → mMem → mRs} (hk4 : ∀ (x1 x2 : Int) (σ : mMem) (H : Heap) (locs : List Loc) (ls : Array Slot), mWd D cy ad bs true mN σ s.heap H locs → lv_has ls 4 [(0, .ref (ad o)), (1, .int (mI x1)), (2, .int (mI x2))] → k4 x1 x2 σ = some (r, σ') → mGi p l e 4 s m args below meth c D cy ad bs r σ' H locs (F0 m 4 ls [])) (hk17 : ∀ (x1 x2 x3 : Int) (σ : mMem) (H : Heap) (locs : List Loc) (ls : Array Slot), mWd D cy ad bs true mN σ s.heap H locs → lv_has ls 4 [(0, .ref (ad o)), (1, .int (mI x1)), (2, .int (mI x2)), (3, .int (mI x3))] → k17 x1 x2 x3 σ = some (r, σ') → mGi p l e 4 s m args below meth c D cy ad bs r σ' H locs (F0 m 17 ls [])) {x2 x3 t0 t1 : Int} {σ : mMem} {H : Heap} {locs : List Loc} {ls : Array Slot} (hw : mWd D cy ad bs true mN σ s.heap H locs) (hl : lv_has ls 4 [(0, .ref (ad o)), (2, .int (mI x2)), (3, .int (mI x3))]) (hf : g_X10_blackCells_b43 F o k4 k17 x2 x3 t0 t1 σ = some (r, σ')) : mGi p l e 4 s m args below meth c D cy ad bs r σ' H locs (F0 m 43 ls [.int (mI t1), .int (mI t0)]) := by
  obtain ⟨⟨hx, hb, -, -, -⟩, -⟩ := id X
  unfold g_X10_blackCells_b43 at hf
  refine r_iadd X dX10_blackCells_43 ?_
  refine r_leti hf (fun y305 hf => ?_)
  refine lv_istore_n (lv' := [(1, .int (mI y305)), (0, .ref (ad o)), (2, .int (mI x2)), (3, .int (mI x3))]) hx hb dX10_blackCells_44 rfl hl (by decide) rfl (fun ls hl => ?_)
  refine lv_iinc (v := mI (x3 + 1)) (lv' := [(3, .int (mI (x3 + 1))), (1, .int (mI y305)), (0, .ref (ad o)), (2, .int (mI x2))]) hx hb dX10_blackCells_45 hl (k := 3) rfl (mI_add _ _) (by decide) rfl (fun ls hl => ?_)
  refine lv_goto (tgt := 17) hx hb dX10_blackCells_48 (by decide) ?_
  exact hk17 y305 x2 (x3 + 1) σ _ _ _ hw (lv_sub hl [2, 1, 3, 0] rfl) hf
def g_X10_blackCells_h17 (F : Nat) (o : Nat) (k4 : Int → Int → mMem → mRs) : Nat → Int → Int → Int → mMem → mRs
  | 0, _, _, _, _ => none
  | n + 1, x1, x2, x3, σ => if σ o 3 = 3 ∨ σ o 3 = 8 then if mw (σ (σ o 3).toNat 10) ≤ mw x3 then (k4 x1 (x2 + 1) σ) else (mob (g_X10_isBlack F o x2 x3 σ) (fun r203 σ204 => if mw r203 = 0 then (g_X10_blackCells_b43 F o k4 (g_X10_blackCells_h17 F o k4 n) x2 x3 x1 0 σ204) else (g_X10_blackCells_b43 F o k4 (g_X10_blackCells_h17 F o k4 n) x2 x3 x1 1 σ204))) else none
set_option maxRecDepth 100000 in
set_option maxHeartbeats 4000000 in
theorem w_X10_blackCells_h17 {p : Program} {l : Launch} {e : Env} {s : State} {m : MethodId} {args : Array Value} {below : List Frame} {meth : Method} {c : Code} {D : va_G} {cy : Nat → ClassId} {ad : Nat → Nat} {bs : Nat} {F : Nat} {o : Nat} (X : mCx p m c cX10_blackCells 4 s args RX10 meth D cy (some .int)) (ho : mWorld o) {r : Int} {σ' : mMem} {k4 : Int → Int → mMem → mRs} (hk4 : ∀ (x1 x2 : Int) (σ : mMem) (H : Heap) (locs : List Loc) (ls : Array Slot), mWd D cy ad bs true mN σ s.heap H locs → lv_has ls 4 [(0, .ref (ad o)), (1, .int (mI x1)), (2, .int (mI x2))] → k4 x1 x2 σ = some (r, σ') → mGi p l e 4 s m args below meth c D cy ad bs r σ' H locs (F0 m 4 ls [])) (n : Nat) : ∀ {x1 x2 x3 : Int} {σ : mMem} {H : Heap} {locs : List Loc} {ls : Array Slot} (_ : mWd D cy ad bs true mN σ s.heap H locs) (_ : lv_has ls 4 [(0, .ref (ad o)), (1, .int (mI x1)), (2, .int (mI x2)), (3, .int (mI x3))]) (_ : g_X10_blackCells_h17 F o k4 n x1 x2 x3 σ = some (r, σ')), mGi p l e 4 s m args below meth c D cy ad bs r σ' H locs (F0 m 17 ls []) := by
  obtain ⟨⟨hx, hb, -, -, -⟩, -⟩ := id X
  induction n with
  | zero =>
    intro x1 x2 x3 σ H locs ls hw hl hf
    unfold g_X10_blackCells_h17 at hf
    cases hf
  | succ n ih =>
    have hk17 : ∀ (x1 x2 x3 : Int) (σ : mMem) (H : Heap) (locs : List Loc) (ls : Array Slot), mWd D cy ad bs true mN σ s.heap H locs → lv_has ls 4 [(0, .ref (ad o)), (1, .int (mI x1)), (2, .int (mI x2)), (3, .int (mI x3))] → g_X10_blackCells_h17 F o k4 n x1 x2 x3 σ = some (r, σ') → mGi p l e 4 s m args below meth c D cy ad bs r σ' H locs (F0 m 17 ls []) := fun x1 x2 x3 σ H locs ls hw hl hf => ih hw hl hf
    intro x1 x2 x3 σ H locs ls hw hl hf
    unfold g_X10_blackCells_h17 at hf
    refine lv_iload_n hx hb dX10_blackCells_17 rfl (lv_at hl 3 rfl) ?_
    refine lv_aload_n hx hb dX10_blackCells_18 rfl (lv_at hl 0 rfl) ?_
    refine r_getp X hw ho.1 fd_10_3 rfl lf_X10_28 dX10_blackCells_19 hf (fun hg202 hf => ?_)
    refine r_geti X hw (mPlan_z hg202).1 fd_5_10 rfl lf_X10_92 dX10_blackCells_22 ?_
    refine r_icmp_ge (tgt := 51) X dX10_blackCells_25 (by decide) hf (fun hc hf => ?_) (fun hc hf => ?_)
    · refine lv_iinc (v := mI (x2 + 1)) (lv' := [(2, .int (mI (x2 + 1))), (0, .ref (ad o)), (1, .int (mI x1)), (3, .int (mI x3))]) hx hb dX10_blackCells_51 hl (k := 2) rfl (mI_add _ _) (by decide) rfl (fun ls hl => ?_)
      refine lv_goto (tgt := 4) hx hb dX10_blackCells_54 (by decide) ?_
      exact hk4 x1 (x2 + 1) σ _ _ _ hw (lv_sub hl [1, 2, 0] rfl) hf
    · refine lv_iload_n hx hb dX10_blackCells_28 rfl (lv_at hl 1 rfl) ?_
      refine lv_aload_n hx hb dX10_blackCells_29 rfl (lv_at hl 0 rfl) ?_
      refine lv_iload_n hx hb dX10_blackCells_30 rfl (lv_at hl 2 rfl) ?_
      refine lv_iload_n hx hb dX10_blackCells_31 rfl (lv_at hl 3 rfl) ?_
      refine r_cvi (rest := [.int (mI x1)]) [.int (mI x2), .int (mI x3)] X hw (fun ra σa h => c_X10_isBlack l D cy ad bs F o x2 x3 σ ra σa ho h) ho.1 rfl (by decide) rfl km_X10_isBlack kv_X10_isBlack lm_X10_85 dX10_blackCells_32 hl.1 rfl rfl (Nat.le_of_ble_eq_true rfl) ⟨by decide, by decide⟩ ⟨Nat.zero_le _, Nat.zero_le _⟩ hf (fun r203 σ204 _ hf H locs hw => ?_)
      refine r_if_eq (tgt := 42) X dX10_blackCells_35 (by decide) hf (fun hc hf => ?_) (fun hc hf => ?_)
      · refine lv_iconst (v := mI 0) hx hb dX10_blackCells_42 rfl ?_
        exact w_X10_blackCells_b43 X ho hk4 hk17 hw (lv_sub hl [0, 2, 3] rfl) hf
      · refine lv_iconst (v := mI 1) hx hb dX10_blackCells_38 rfl ?_
        refine lv_goto (tgt := 43) hx hb dX10_blackCells_39 (by decide) ?_
        exact w_X10_blackCells_b43 X ho hk4 hk17 hw (lv_sub hl [0, 2, 3] rfl) hf
def g_X10_blackCells_h4 (F : Nat) (o : Nat)  : Nat → Int → Int → mMem → mRs
  | 0, _, _, _ => none
  | n + 1, x1, x2, σ => if σ o 3 = 3 ∨ σ o 3 = 8 then if mw (σ (σ o 3).toNat 9) ≤ mw x2 then (some (x1, σ)) else (g_X10_blackCells_h17 F o (g_X10_blackCells_h4 F o n) F x1 x2 0 σ) else none
set_option maxRecDepth 100000 in
set_option maxHeartbeats 4000000 in
theorem w_X10_blackCells_h4 {p : Program} {l : Launch} {e : Env} {s : State} {m : MethodId} {args : Array Value} {below : List Frame} {meth : Method} {c : Code} {D : va_G} {cy : Nat → ClassId} {ad : Nat → Nat} {bs : Nat} {F : Nat} {o : Nat} (X : mCx p m c cX10_blackCells 4 s args RX10 meth D cy (some .int)) (ho : mWorld o) {r : Int} {σ' : mMem}   (n : Nat) : ∀ {x1 x2 : Int} {σ : mMem} {H : Heap} {locs : List Loc} {ls : Array Slot} (_ : mWd D cy ad bs true mN σ s.heap H locs) (_ : lv_has ls 4 [(0, .ref (ad o)), (1, .int (mI x1)), (2, .int (mI x2))]) (_ : g_X10_blackCells_h4 F o n x1 x2 σ = some (r, σ')), mGi p l e 4 s m args below meth c D cy ad bs r σ' H locs (F0 m 4 ls []) := by
  obtain ⟨⟨hx, hb, -, -, -⟩, -⟩ := id X
  induction n with
  | zero =>
    intro x1 x2 σ H locs ls hw hl hf
    unfold g_X10_blackCells_h4 at hf
    cases hf
  | succ n ih =>
    have hk4 : ∀ (x1 x2 : Int) (σ : mMem) (H : Heap) (locs : List Loc) (ls : Array Slot), mWd D cy ad bs true mN σ s.heap H locs → lv_has ls 4 [(0, .ref (ad o)), (1, .int (mI x1)), (2, .int (mI x2))] → g_X10_blackCells_h4 F o n x1 x2 σ = some (r, σ') → mGi p l e 4 s m args below meth c D cy ad bs r σ' H locs (F0 m 4 ls []) := fun x1 x2 σ H locs ls hw hl hf => ih hw hl hf
    intro x1 x2 σ H locs ls hw hl hf
    unfold g_X10_blackCells_h4 at hf
    refine lv_iload_n hx hb dX10_blackCells_4 rfl (lv_at hl 2 rfl) ?_
    refine lv_aload_n hx hb dX10_blackCells_5 rfl (lv_at hl 0 rfl) ?_
    refine r_getp X hw ho.1 fd_10_3 rfl lf_X10_28 dX10_blackCells_6 hf (fun hg101 hf => ?_)
    refine r_geti X hw (mPlan_z hg101).1 fd_5_9 rfl lf_X10_89 dX10_blackCells_9 ?_
    refine r_icmp_ge (tgt := 57) X dX10_blackCells_12 (by decide) hf (fun hc hf => ?_) (fun hc hf => ?_)
    · refine lv_iload_n hx hb dX10_blackCells_57 rfl (lv_at hl 1 rfl) ?_
      exact r_iret X hw dX10_blackCells_58 hf
    · refine lv_iconst (v := mI 0) hx hb dX10_blackCells_15 rfl ?_
      refine lv_istore_n (lv' := [(3, .int (mI 0)), (0, .ref (ad o)), (1, .int (mI x1)), (2, .int (mI x2))]) hx hb dX10_blackCells_16 rfl hl (by decide) rfl (fun ls hl => ?_)
      exact w_X10_blackCells_h17 X ho hk4 _ hw (lv_sub hl [1, 2, 3, 0] rfl) hf
def g_X10_blackCells (F : Nat) (o : Nat) (σ : mMem) : mRs := g_X10_blackCells_h4 F o F 0 0 σ
set_option maxRecDepth 100000 in
set_option maxHeartbeats 4000000 in
theorem c_X10_blackCells (l : Launch) (D : va_G) (cy : Nat → ClassId) (ad : Nat → Nat) (bs : Nat) (F : Nat) (o : Nat)  (σ : mMem) (r : Int) (σ' : mMem) (ho : mWorld o) (hf : g_X10_blackCells F o σ = some (r, σ')) : mCi l D cy ad bs yX10_blackCells cX10_blackCells 4 (some .int) 4 [.ref (ad o)] σ r σ' := by
  refine mCi.of (lv := [(0, .ref (ad o))]) km_X10_blackCells.2.2.2.2.2 (Nat.le_of_ble_eq_true rfl) rfl (fun p e s m args below meth c H locs ls X hw hl => ?_)
  obtain ⟨⟨hx, hb, -, -, -⟩, -⟩ := id X
  unfold g_X10_blackCells at hf
  refine lv_iconst (v := mI 0) hx hb dX10_blackCells_0 rfl ?_
  refine lv_istore_n (lv' := [(1, .int (mI 0)), (0, .ref (ad o))]) hx hb dX10_blackCells_1 rfl hl (by decide) rfl (fun ls hl => ?_)
  refine lv_iconst (v := mI 0) hx hb dX10_blackCells_2 rfl ?_
  refine lv_istore_n (lv' := [(2, .int (mI 0)), (1, .int (mI 0)), (0, .ref (ad o))]) hx hb dX10_blackCells_3 rfl hl (by decide) rfl (fun ls hl => ?_)
  exact w_X10_blackCells_h4 X ho _ hw (lv_sub hl [2, 1, 0] rfl) hf
def g_X10_emptyBoxes_b30 (F : Nat) (o : Nat) (k4 : Int → Int → mMem → mRs) (x2 t0 t1 : Int) (σ : mMem) : mRs := mlet (t0 + t1) (fun y204 => k4 y204 (x2 + 1) σ)
set_option maxRecDepth 100000 in
set_option maxHeartbeats 4000000 in
theorem w_X10_emptyBoxes_b30 {p : Program} {l : Launch} {e : Env} {s : State} {m : MethodId} {args : Array Value} {below : List Frame} {meth : Method} {c : Code} {D : va_G} {cy : Nat → ClassId} {ad : Nat → Nat} {bs : Nat} {F : Nat} {o : Nat} (X : mCx p m c cX10_emptyBoxes 3 s args RX10 meth D cy (some .int)) (ho : mWorld o) {r : Int} {σ' : mMem} {k4 : Int → Int → mMem → mRs} (hk4 : ∀ (x1 x2 : Int) (σ : mMem) (H : Heap) (locs : List Loc) (ls : Array Slot), mWd D cy ad bs true mN σ s.heap H locs → lv_has ls 3 [(0, .ref (ad o)), (1, .int (mI x1)), (2, .int (mI x2))] → k4 x1 x2 σ = some (r, σ') → mGi p l e 2 s m args below meth c D cy ad bs r σ' H locs (F0 m 4 ls [])) {x2 t0 t1 : Int} {σ : mMem} {H : Heap} {locs : List Loc} {ls : Array Slot} (hw : mWd D cy ad bs true mN σ s.heap H locs) (hl : lv_has ls 3 [(0, .ref (ad o)), (2, .int (mI x2))]) (hf : g_X10_emptyBoxes_b30 F o k4 x2 t0 t1 σ = some (r, σ')) : mGi p l e 2 s m args below meth c D cy ad bs r σ' H locs (F0 m 30 ls [.int (mI t1), .int (mI t0)]) := by
  obtain ⟨⟨hx, hb, -, -, -⟩, -⟩ := id X
  unfold g_X10_emptyBoxes_b30 at hf
  refine r_iadd X dX10_emptyBoxes_30 ?_
  refine r_leti hf (fun y204 hf => ?_)
  refine lv_istore_n (lv' := [(1, .int (mI y204)), (0, .ref (ad o)), (2, .int (mI x2))]) hx hb dX10_emptyBoxes_31 rfl hl (by decide) rfl (fun ls hl => ?_)
  refine lv_iinc (v := mI (x2 + 1)) (lv' := [(2, .int (mI (x2 + 1))), (1, .int (mI y204)), (0, .ref (ad o))]) hx hb dX10_emptyBoxes_32 hl (k := 2) rfl (mI_add _ _) (by decide) rfl (fun ls hl => ?_)
  refine lv_goto (tgt := 4) hx hb dX10_emptyBoxes_35 (by decide) ?_
  exact hk4 y204 (x2 + 1) σ _ _ _ hw (lv_sub hl [2, 1, 0] rfl) hf
def g_X10_emptyBoxes_h4 (F : Nat) (o : Nat)  : Nat → Int → Int → mMem → mRs
  | 0, _, _, _ => none
  | n + 1, x1, x2, σ => if σ o 3 = 3 ∨ σ o 3 = 8 then if mw (σ (σ o 3).toNat 11) ≤ mw x2 then (some (x1, σ)) else (mob (g_X10_of F o x2 3 σ) (fun r102 σ103 => if ¬ mw r102 = 0 then (g_X10_emptyBoxes_b30 F o (g_X10_emptyBoxes_h4 F o n) x2 x1 0 σ103) else (g_X10_emptyBoxes_b30 F o (g_X10_emptyBoxes_h4 F o n) x2 x1 1 σ103))) else none
set_option maxRecDepth 100000 in
set_option maxHeartbeats 4000000 in
theorem w_X10_emptyBoxes_h4 {p : Program} {l : Launch} {e : Env} {s : State} {m : MethodId} {args : Array Value} {below : List Frame} {meth : Method} {c : Code} {D : va_G} {cy : Nat → ClassId} {ad : Nat → Nat} {bs : Nat} {F : Nat} {o : Nat} (X : mCx p m c cX10_emptyBoxes 3 s args RX10 meth D cy (some .int)) (ho : mWorld o) {r : Int} {σ' : mMem}   (n : Nat) : ∀ {x1 x2 : Int} {σ : mMem} {H : Heap} {locs : List Loc} {ls : Array Slot} (_ : mWd D cy ad bs true mN σ s.heap H locs) (_ : lv_has ls 3 [(0, .ref (ad o)), (1, .int (mI x1)), (2, .int (mI x2))]) (_ : g_X10_emptyBoxes_h4 F o n x1 x2 σ = some (r, σ')), mGi p l e 2 s m args below meth c D cy ad bs r σ' H locs (F0 m 4 ls []) := by
  obtain ⟨⟨hx, hb, -, -, -⟩, -⟩ := id X
  induction n with
  | zero =>
    intro x1 x2 σ H locs ls hw hl hf
    unfold g_X10_emptyBoxes_h4 at hf
    cases hf
  | succ n ih =>
    have hk4 : ∀ (x1 x2 : Int) (σ : mMem) (H : Heap) (locs : List Loc) (ls : Array Slot), mWd D cy ad bs true mN σ s.heap H locs → lv_has ls 3 [(0, .ref (ad o)), (1, .int (mI x1)), (2, .int (mI x2))] → g_X10_emptyBoxes_h4 F o n x1 x2 σ = some (r, σ') → mGi p l e 2 s m args below meth c D cy ad bs r σ' H locs (F0 m 4 ls []) := fun x1 x2 σ H locs ls hw hl hf => ih hw hl hf
    intro x1 x2 σ H locs ls hw hl hf
    unfold g_X10_emptyBoxes_h4 at hf
    refine lv_iload_n hx hb dX10_emptyBoxes_4 rfl (lv_at hl 2 rfl) ?_
    refine lv_aload_n hx hb dX10_emptyBoxes_5 rfl (lv_at hl 0 rfl) ?_
    refine r_getp X hw ho.1 fd_10_3 rfl lf_X10_28 dX10_emptyBoxes_6 hf (fun hg101 hf => ?_)
    refine r_geti X hw (mPlan_z hg101).1 fd_5_11 rfl lf_X10_55 dX10_emptyBoxes_9 ?_
    refine r_icmp_ge (tgt := 38) X dX10_emptyBoxes_12 (by decide) hf (fun hc hf => ?_) (fun hc hf => ?_)
    · refine lv_iload_n hx hb dX10_emptyBoxes_38 rfl (lv_at hl 1 rfl) ?_
      exact r_iret X hw dX10_emptyBoxes_39 hf
    · refine lv_iload_n hx hb dX10_emptyBoxes_15 rfl (lv_at hl 1 rfl) ?_
      refine lv_aload_n hx hb dX10_emptyBoxes_16 rfl (lv_at hl 0 rfl) ?_
      refine lv_iload_n hx hb dX10_emptyBoxes_17 rfl (lv_at hl 2 rfl) ?_
      refine lv_iconst (v := mI 3) hx hb dX10_emptyBoxes_18 rfl ?_
      refine r_cvi (rest := [.int (mI x1)]) [.int (mI x2), .int (mI 3)] X hw (fun ra σa h => c_X10_of l D cy ad bs F o x2 3 σ ra σa ho h) ho.1 rfl (by decide) rfl km_X10_of kv_X10_of lm_X10_65 dX10_emptyBoxes_19 hl.1 rfl rfl (Nat.le_of_ble_eq_true rfl) ⟨by decide, by decide⟩ ⟨Nat.zero_le _, Nat.zero_le _⟩ hf (fun r102 σ103 _ hf H locs hw => ?_)
      refine r_if_ne (tgt := 29) X dX10_emptyBoxes_22 (by decide) hf (fun hc hf => ?_) (fun hc hf => ?_)
      · refine lv_iconst (v := mI 0) hx hb dX10_emptyBoxes_29 rfl ?_
        exact w_X10_emptyBoxes_b30 X ho hk4 hw (lv_sub hl [0, 2] rfl) hf
      · refine lv_iconst (v := mI 1) hx hb dX10_emptyBoxes_25 rfl ?_
        refine lv_goto (tgt := 30) hx hb dX10_emptyBoxes_26 (by decide) ?_
        exact w_X10_emptyBoxes_b30 X ho hk4 hw (lv_sub hl [0, 2] rfl) hf
def g_X10_emptyBoxes (F : Nat) (o : Nat) (σ : mMem) : mRs := g_X10_emptyBoxes_h4 F o F 0 0 σ
set_option maxRecDepth 100000 in
set_option maxHeartbeats 4000000 in
theorem c_X10_emptyBoxes (l : Launch) (D : va_G) (cy : Nat → ClassId) (ad : Nat → Nat) (bs : Nat) (F : Nat) (o : Nat)  (σ : mMem) (r : Int) (σ' : mMem) (ho : mWorld o) (hf : g_X10_emptyBoxes F o σ = some (r, σ')) : mCi l D cy ad bs yX10_emptyBoxes cX10_emptyBoxes 3 (some .int) 2 [.ref (ad o)] σ r σ' := by
  refine mCi.of (lv := [(0, .ref (ad o))]) km_X10_emptyBoxes.2.2.2.2.2 (Nat.le_of_ble_eq_true rfl) rfl (fun p e s m args below meth c H locs ls X hw hl => ?_)
  obtain ⟨⟨hx, hb, -, -, -⟩, -⟩ := id X
  unfold g_X10_emptyBoxes at hf
  refine lv_iconst (v := mI 0) hx hb dX10_emptyBoxes_0 rfl ?_
  refine lv_istore_n (lv' := [(1, .int (mI 0)), (0, .ref (ad o))]) hx hb dX10_emptyBoxes_1 rfl hl (by decide) rfl (fun ls hl => ?_)
  refine lv_iconst (v := mI 0) hx hb dX10_emptyBoxes_2 rfl ?_
  refine lv_istore_n (lv' := [(2, .int (mI 0)), (1, .int (mI 0)), (0, .ref (ad o))]) hx hb dX10_emptyBoxes_3 rfl hl (by decide) rfl (fun ls hl => ?_)
  exact w_X10_emptyBoxes_h4 X ho _ hw (lv_sub hl [2, 1, 0] rfl) hf
def g_X11_refuse_b23 (F : Nat)  (σ : mMem) : mRs := some ((-1), σ)
set_option maxRecDepth 100000 in
set_option maxHeartbeats 4000000 in
theorem w_X11_refuse_b23 {p : Program} {l : Launch} {e : Env} {s : State} {m : MethodId} {args : Array Value} {below : List Frame} {meth : Method} {c : Code} {D : va_G} {cy : Nat → ClassId} {ad : Nat → Nat} {bs : Nat} {F : Nat}  (X : mCx p m c cX11_refuse 2 s args RX11 meth D cy (some .int))  {r : Int} {σ' : mMem}    {σ : mMem} {H : Heap} {locs : List Loc} {ls : Array Slot} (hw : mWd D cy ad bs true mN σ s.heap H locs) (hl : lv_has ls 2 [(0, .ref (ad 0))]) (hf : g_X11_refuse_b23 F  σ = some (r, σ')) : mGi p l e 1 s m args below meth c D cy ad bs r σ' H locs (F0 m 23 ls []) := by
  obtain ⟨⟨hx, hb, -, -, -⟩, -⟩ := id X
  unfold g_X11_refuse_b23 at hf
  refine lv_iconst (v := mI (-1)) hx hb dX11_refuse_23 rfl ?_
  exact r_iret X hw dX11_refuse_24 hf
def g_X11_refuse (F : Nat) (x1 : Int) (σ : mMem) : mRs := if mw x1 < 0 then (g_X11_refuse_b23 F σ) else (if mw 6 ≤ mw x1 then (g_X11_refuse_b23 F σ) else (if 0 ≤ mw x1 ∧ mw x1 < (6 : Int) then if 0 ≤ mw x1 ∧ mw x1 < (6 : Int) then mlm (mup σ 85 (mw x1).toNat ((σ 85 (mw x1).toNat) + 1)) (fun σ1 => g_X11_refuse_b23 F σ1) else none else none))
set_option maxRecDepth 100000 in
set_option maxHeartbeats 4000000 in
theorem c_X11_refuse (l : Launch) (D : va_G) (cy : Nat → ClassId) (ad : Nat → Nat) (bs : Nat) (F : Nat)  (x1 : Int) (σ : mMem) (r : Int) (σ' : mMem)  (hf : g_X11_refuse F x1 σ = some (r, σ')) : mCi l D cy ad bs yX11_refuse cX11_refuse 2 (some .int) 1 [.ref (ad 0), .int (mI x1)] σ r σ' := by
  refine mCi.of (lv := [(0, .ref (ad 0)), (1, .int (mI x1))]) km_X11_refuse.2.2.2.2.2 (Nat.le_of_ble_eq_true rfl) rfl (fun p e s m args below meth c H locs ls X hw hl => ?_)
  obtain ⟨⟨hx, hb, -, -, -⟩, -⟩ := id X
  unfold g_X11_refuse at hf
  refine lv_iload_n hx hb dX11_refuse_0 rfl (lv_at hl 1 rfl) ?_
  refine r_if_lt (tgt := 23) X dX11_refuse_1 (by decide) hf (fun hc hf => ?_) (fun hc hf => ?_)
  · exact w_X11_refuse_b23 X hw (lv_sub hl [0] rfl) hf
  · refine lv_iload_n hx hb dX11_refuse_4 rfl (lv_at hl 1 rfl) ?_
    refine lv_aload_n hx hb dX11_refuse_5 rfl (lv_at hl 0 rfl) ?_
    refine r_getr 85 X hw sh_0 fd_11_7 rfl rfl lf_X11_72 dX11_refuse_6 ?_
    refine r_ileni (6 : Int) rfl X hw sh_85 dX11_refuse_9 ?_
    refine r_icmp_ge (tgt := 23) X dX11_refuse_10 (by decide) hf (fun hc hf => ?_) (fun hc hf => ?_)
    · exact w_X11_refuse_b23 X hw (lv_sub hl [0] rfl) hf
    · refine lv_aload_n hx hb dX11_refuse_13 rfl (lv_at hl 0 rfl) ?_
      refine r_getr 85 X hw sh_0 fd_11_7 rfl rfl lf_X11_72 dX11_refuse_14 ?_
      refine lv_iload_n hx hb dX11_refuse_17 rfl (lv_at hl 1 rfl) ?_
      refine lv_dup2_11 hx hb dX11_refuse_18 rfl rfl ?_
      refine r_iald (6 : Int) rfl X hw sh_85 dX11_refuse_19 hf (fun hf => ?_)
      refine lv_iconst (v := mI 1) hx hb dX11_refuse_20 rfl ?_
      refine r_iadd X dX11_refuse_21 ?_
      refine r_iast (6 : Int) rfl X hw sh_85 dX11_refuse_22 hf (fun hf H locs hw => ?_)
      refine r_mem hf hw (fun σ1 hw hf => ?_)
      exact w_X11_refuse_b23 X hw (lv_sub hl [0] rfl) hf
def g_X11_feed (F : Nat) (x1 x2 x3 x4 x5 : Int) (σ : mMem) : mRs := mob (g_X7_hasSpaceFor F 20 σ) (fun r1 σ2 => if ¬ mw r1 = 0 then (mob (g_X7_add F x1 σ2) (fun r3 σ4 => mob (g_X7_add F x2 σ4) (fun r5 σ6 => mob (g_X7_add F x3 σ6) (fun r7 σ8 => mob (g_X7_add F x4 σ8) (fun r9 σ10 => mob (g_X7_add F x5 σ10) (fun r11 σ12 => some (σ12 1 1, σ12))))))) else (mob (g_X11_refuse F 0 σ2) (fun r13 σ14 => some (r13, σ14))))
set_option maxRecDepth 100000 in
set_option maxHeartbeats 4000000 in
theorem c_X11_feed (l : Launch) (D : va_G) (cy : Nat → ClassId) (ad : Nat → Nat) (bs : Nat) (F : Nat)  (x1 x2 x3 x4 x5 : Int) (σ : mMem) (r : Int) (σ' : mMem)  (hf : g_X11_feed F x1 x2 x3 x4 x5 σ = some (r, σ')) : mCi l D cy ad bs yX11_feed cX11_feed 6 (some .int) 2 [.ref (ad 0), .int (mI x1), .int (mI x2), .int (mI x3), .int (mI x4), .int (mI x5)] σ r σ' := by
  refine mCi.of (lv := [(0, .ref (ad 0)), (1, .int (mI x1)), (2, .int (mI x2)), (3, .int (mI x3)), (4, .int (mI x4)), (5, .int (mI x5))]) km_X11_feed.2.2.2.2.2 (Nat.le_of_ble_eq_true rfl) rfl (fun p e s m args below meth c H locs ls X hw hl => ?_)
  obtain ⟨⟨hx, hb, -, -, -⟩, -⟩ := id X
  unfold g_X11_feed at hf
  refine lv_aload_n hx hb dX11_feed_0 rfl (lv_at hl 0 rfl) ?_
  refine r_getr 1 X hw sh_0 fd_11_0 rfl rfl lf_X11_10 dX11_feed_1 ?_
  refine lv_bipush (v := mI 20) hx hb dX11_feed_4 (by decide) ?_
  refine r_cvi (rest := []) [.int (mI 20)] X hw (fun ra σa h => c_X7_hasSpaceFor l D cy ad bs F 20 σ ra σa  h) sh_1 rfl (by decide) rfl km_X7_hasSpaceFor kv_X7_hasSpaceFor lm_X11_86 dX11_feed_6 hl.1 rfl rfl (Nat.le_of_ble_eq_true rfl) ⟨by decide, by decide⟩ ⟨Nat.zero_le _, Nat.zero_le _⟩ hf (fun r1 σ2 _ hf H locs hw => ?_)
  refine r_if_ne (tgt := 18) X dX11_feed_9 (by decide) hf (fun hc hf => ?_) (fun hc hf => ?_)
  · refine lv_aload_n hx hb dX11_feed_18 rfl (lv_at hl 0 rfl) ?_
    refine r_getr 1 X hw sh_0 fd_11_0 rfl rfl lf_X11_10 dX11_feed_19 ?_
    refine lv_iload_n hx hb dX11_feed_22 rfl (lv_at hl 1 rfl) ?_
    refine r_cvv (rest := []) [.int (mI x1)] X hw (fun ra σa h => c_X7_add l D cy ad bs F x1 σ2 ra σa  h) sh_1 rfl (by decide) rfl km_X7_add kv_X7_add lm_X11_94 dX11_feed_23 hl.1 rfl rfl (Nat.le_of_ble_eq_true rfl) ⟨by decide, by decide⟩ ⟨Nat.zero_le _, Nat.zero_le _⟩ hf (fun r3 σ4 _ hf H locs hw => ?_)
    refine lv_aload_n hx hb dX11_feed_26 rfl (lv_at hl 0 rfl) ?_
    refine r_getr 1 X hw sh_0 fd_11_0 rfl rfl lf_X11_10 dX11_feed_27 ?_
    refine lv_iload_n hx hb dX11_feed_30 rfl (lv_at hl 2 rfl) ?_
    refine r_cvv (rest := []) [.int (mI x2)] X hw (fun ra σa h => c_X7_add l D cy ad bs F x2 σ4 ra σa  h) sh_1 rfl (by decide) rfl km_X7_add kv_X7_add lm_X11_94 dX11_feed_31 hl.1 rfl rfl (Nat.le_of_ble_eq_true rfl) ⟨by decide, by decide⟩ ⟨Nat.zero_le _, Nat.zero_le _⟩ hf (fun r5 σ6 _ hf H locs hw => ?_)
    refine lv_aload_n hx hb dX11_feed_34 rfl (lv_at hl 0 rfl) ?_
    refine r_getr 1 X hw sh_0 fd_11_0 rfl rfl lf_X11_10 dX11_feed_35 ?_
    refine lv_iload_n hx hb dX11_feed_38 rfl (lv_at hl 3 rfl) ?_
    refine r_cvv (rest := []) [.int (mI x3)] X hw (fun ra σa h => c_X7_add l D cy ad bs F x3 σ6 ra σa  h) sh_1 rfl (by decide) rfl km_X7_add kv_X7_add lm_X11_94 dX11_feed_39 hl.1 rfl rfl (Nat.le_of_ble_eq_true rfl) ⟨by decide, by decide⟩ ⟨Nat.zero_le _, Nat.zero_le _⟩ hf (fun r7 σ8 _ hf H locs hw => ?_)
    refine lv_aload_n hx hb dX11_feed_42 rfl (lv_at hl 0 rfl) ?_
    refine r_getr 1 X hw sh_0 fd_11_0 rfl rfl lf_X11_10 dX11_feed_43 ?_
    refine lv_iload hx hb dX11_feed_46 (lv_at hl 4 rfl) ?_
    refine r_cvv (rest := []) [.int (mI x4)] X hw (fun ra σa h => c_X7_add l D cy ad bs F x4 σ8 ra σa  h) sh_1 rfl (by decide) rfl km_X7_add kv_X7_add lm_X11_94 dX11_feed_48 hl.1 rfl rfl (Nat.le_of_ble_eq_true rfl) ⟨by decide, by decide⟩ ⟨Nat.zero_le _, Nat.zero_le _⟩ hf (fun r9 σ10 _ hf H locs hw => ?_)
    refine lv_aload_n hx hb dX11_feed_51 rfl (lv_at hl 0 rfl) ?_
    refine r_getr 1 X hw sh_0 fd_11_0 rfl rfl lf_X11_10 dX11_feed_52 ?_
    refine lv_iload hx hb dX11_feed_55 (lv_at hl 5 rfl) ?_
    refine r_cvv (rest := []) [.int (mI x5)] X hw (fun ra σa h => c_X7_add l D cy ad bs F x5 σ10 ra σa  h) sh_1 rfl (by decide) rfl km_X7_add kv_X7_add lm_X11_94 dX11_feed_57 hl.1 rfl rfl (Nat.le_of_ble_eq_true rfl) ⟨by decide, by decide⟩ ⟨Nat.zero_le _, Nat.zero_le _⟩ hf (fun r11 σ12 _ hf H locs hw => ?_)
    refine lv_aload_n hx hb dX11_feed_60 rfl (lv_at hl 0 rfl) ?_
    refine r_getr 1 X hw sh_0 fd_11_0 rfl rfl lf_X11_10 dX11_feed_61 ?_
    refine r_geti X hw sh_1 fd_7_1 rfl lf_X11_98 dX11_feed_64 ?_
    exact r_iret X hw dX11_feed_67 hf
  · refine lv_aload_n hx hb dX11_feed_12 rfl (lv_at hl 0 rfl) ?_
    refine lv_iconst (v := mI 0) hx hb dX11_feed_13 rfl ?_
    refine r_cvi (rest := []) [.int (mI 0)] X hw (fun ra σa h => c_X11_refuse l D cy ad bs F 0 σ2 ra σa  h) sh_0 rfl (by decide) rfl km_X11_refuse kv_X11_refuse lm_X11_90 dX11_feed_14 hl.1 rfl rfl (Nat.le_of_ble_eq_true rfl) ⟨by decide, by decide⟩ ⟨Nat.zero_le _, Nat.zero_le _⟩ hf (fun r13 σ14 _ hf H locs hw => ?_)
    exact r_iret X hw dX11_feed_17 hf
def g_X11_end_b15 (F : Nat)  (σ : mMem) : mRs := mob (g_X11_refuse F 0 σ) (fun r102 σ103 => if mw 0 = 0 ∨ mw 0 = 1 then some (0, σ103) else none)
set_option maxRecDepth 100000 in
set_option maxHeartbeats 4000000 in
theorem w_X11_end_b15 {p : Program} {l : Launch} {e : Env} {s : State} {m : MethodId} {args : Array Value} {below : List Frame} {meth : Method} {c : Code} {D : va_G} {cy : Nat → ClassId} {ad : Nat → Nat} {bs : Nat} {F : Nat}  (X : mCx p m c cX11_end 2 s args RX11 meth D cy (some .boolean))  {r : Int} {σ' : mMem}    {σ : mMem} {H : Heap} {locs : List Loc} {ls : Array Slot} (hw : mWd D cy ad bs true mN σ s.heap H locs) (hl : lv_has ls 2 [(0, .ref (ad 0))]) (hf : g_X11_end_b15 F  σ = some (r, σ')) : mGi p l e 2 s m args below meth c D cy ad bs r σ' H locs (F0 m 15 ls []) := by
  obtain ⟨⟨hx, hb, -, -, -⟩, -⟩ := id X
  unfold g_X11_end_b15 at hf
  refine lv_aload_n hx hb dX11_end_15 rfl (lv_at hl 0 rfl) ?_
  refine lv_iconst (v := mI 0) hx hb dX11_end_16 rfl ?_
  refine r_cvi (rest := []) [.int (mI 0)] X hw (fun ra σa h => c_X11_refuse l D cy ad bs F 0 σ ra σa  h) sh_0 rfl (by decide) rfl km_X11_refuse kv_X11_refuse lm_X11_90 dX11_end_17 hl.1 rfl rfl (Nat.le_of_ble_eq_true rfl) ⟨by decide, by decide⟩ ⟨Nat.zero_le _, Nat.zero_le _⟩ hf (fun r102 σ103 _ hf H locs hw => ?_)
  refine lv_pop hx hb dX11_end_20 rfl ?_
  refine lv_iconst (v := mI 0) hx hb dX11_end_21 rfl ?_
  exact r_zret X hw dX11_end_22 hf
def g_X11_end (F : Nat) (x1 : Int) (σ : mMem) : mRs := if mw x1 < 0 then (g_X11_end_b15 F σ) else (if mw x1 ≤ mw (σ 1 1) then (mlm (mup σ 1 1 x1) (fun σ1 => if mw 1 = 0 ∨ mw 1 = 1 then some (1, σ1) else none)) else (g_X11_end_b15 F σ))
set_option maxRecDepth 100000 in
set_option maxHeartbeats 4000000 in
theorem c_X11_end (l : Launch) (D : va_G) (cy : Nat → ClassId) (ad : Nat → Nat) (bs : Nat) (F : Nat)  (x1 : Int) (σ : mMem) (r : Int) (σ' : mMem)  (hf : g_X11_end F x1 σ = some (r, σ')) : mCi l D cy ad bs yX11_end cX11_end 2 (some .boolean) 2 [.ref (ad 0), .int (mI x1)] σ r σ' := by
  refine mCi.of (lv := [(0, .ref (ad 0)), (1, .int (mI x1))]) km_X11_end.2.2.2.2.2 (Nat.le_of_ble_eq_true rfl) rfl (fun p e s m args below meth c H locs ls X hw hl => ?_)
  obtain ⟨⟨hx, hb, -, -, -⟩, -⟩ := id X
  unfold g_X11_end at hf
  refine lv_iload_n hx hb dX11_end_0 rfl (lv_at hl 1 rfl) ?_
  refine r_if_lt (tgt := 15) X dX11_end_1 (by decide) hf (fun hc hf => ?_) (fun hc hf => ?_)
  · exact w_X11_end_b15 X hw (lv_sub hl [0] rfl) hf
  · refine lv_iload_n hx hb dX11_end_4 rfl (lv_at hl 1 rfl) ?_
    refine lv_aload_n hx hb dX11_end_5 rfl (lv_at hl 0 rfl) ?_
    refine r_getr 1 X hw sh_0 fd_11_0 rfl rfl lf_X11_10 dX11_end_6 ?_
    refine r_geti X hw sh_1 fd_7_1 rfl lf_X11_98 dX11_end_9 ?_
    refine r_icmp_le (tgt := 23) X dX11_end_12 (by decide) hf (fun hc hf => ?_) (fun hc hf => ?_)
    · refine lv_aload_n hx hb dX11_end_23 rfl (lv_at hl 0 rfl) ?_
      refine r_getr 1 X hw sh_0 fd_11_0 rfl rfl lf_X11_10 dX11_end_24 ?_
      refine lv_iload_n hx hb dX11_end_27 rfl (lv_at hl 1 rfl) ?_
      refine r_puti X hw sh_1 fd_7_1 fp_7_1 rfl rfl lf_X11_98 dX11_end_28 (fun H locs hw => ?_)
      refine r_mem hf hw (fun σ1 hw hf => ?_)
      refine lv_iconst (v := mI 1) hx hb dX11_end_31 rfl ?_
      exact r_zret X hw dX11_end_32 hf
    · exact w_X11_end_b15 X hw (lv_sub hl [0] rfl) hf
def g_X11_kitchen (F : Nat) (σ : mMem) : mRs := if σ 0 9 = 3 ∨ σ 0 9 = 8 then mob (g_X6_readInto F (σ 0 9).toNat σ) (fun r2 σ3 => mlm (mup σ3 1 1 0) (fun σ4 => mlm (mup σ4 0 10 (σ4 14 10)) (fun σ5 => mlm (mup σ5 0 11 (σ5 14 11)) (fun σ6 => if mw (σ6 0 10) = 0 then (if σ6 0 8 = 3 ∨ σ6 0 8 = 8 then if σ6 0 9 = 3 ∨ σ6 0 9 = 8 then mlm (mup σ6 0 8 (((σ6 0 9).toNat : Nat) : Int)) (fun σ9 => mlm (mup σ9 0 9 (((σ6 0 8).toNat : Nat) : Int)) (fun σ10 => if σ10 0 8 = 3 ∨ σ10 0 8 = 8 then mob (g_X10_begin F 20 (σ10 0 8).toNat σ10) (fun r12 σ13 => mob (g_X3_forget F σ13) (fun r14 σ15 => mob (g_X9_forget F σ15) (fun r16 σ17 => some (r2, σ17)))) else none)) else none else none) else (mob (g_X11_refuse F 1 σ6) (fun r18 σ19 => some (r18, σ19))))))) else none
set_option maxRecDepth 100000 in
set_option maxHeartbeats 4000000 in
theorem c_X11_kitchen (l : Launch) (D : va_G) (cy : Nat → ClassId) (ad : Nat → Nat) (bs : Nat) (F : Nat)   (σ : mMem) (r : Int) (σ' : mMem)  (hf : g_X11_kitchen F  σ = some (r, σ')) : mCi l D cy ad bs yX11_kitchen cX11_kitchen 3 (some .int) 98 [.ref (ad 0)] σ r σ' := by
  refine mCi.of (lv := [(0, .ref (ad 0))]) km_X11_kitchen.2.2.2.2.2 (Nat.le_of_ble_eq_true rfl) rfl (fun p e s m args below meth c H locs ls X hw hl => ?_)
  obtain ⟨⟨hx, hb, -, -, -⟩, -⟩ := id X
  unfold g_X11_kitchen at hf
  refine lv_aload_n hx hb dX11_kitchen_0 rfl (lv_at hl 0 rfl) ?_
  refine r_getr 13 X hw sh_0 fd_11_1 rfl rfl lf_X11_31 dX11_kitchen_1 ?_
  refine lv_aload_n hx hb dX11_kitchen_4 rfl (lv_at hl 0 rfl) ?_
  refine r_getp X hw sh_0 fd_11_9 rfl lf_X11_23 dX11_kitchen_5 hf (fun hg1 hf => ?_)
  refine r_cvi (rest := []) [.ref (ad (σ 0 9).toNat)] X hw (fun ra σa h => c_X6_readInto l D cy ad bs F (σ 0 9).toNat σ ra σa (mPlan_z hg1) h) sh_13 rfl (by decide) rfl km_X6_readInto kv_X6_readInto lm_X11_101 dX11_kitchen_8 hl.1 rfl rfl (Nat.le_of_ble_eq_true rfl) ⟨by decide, by decide⟩ ⟨Nat.zero_le _, Nat.zero_le _⟩ hf (fun r2 σ3 _ hf H locs hw => ?_)
  refine lv_istore_n (lv' := [(1, .int (mI r2)), (0, .ref (ad 0))]) hx hb dX11_kitchen_11 rfl hl (by decide) rfl (fun ls hl => ?_)
  refine lv_aload_n hx hb dX11_kitchen_12 rfl (lv_at hl 1 rfl) ?_
  refine r_getr 1 X hw sh_0 fd_11_0 rfl rfl lf_X11_10 dX11_kitchen_13 ?_
  refine lv_iconst (v := mI 0) hx hb dX11_kitchen_16 rfl ?_
  refine r_puti X hw sh_1 fd_7_1 fp_7_1 rfl rfl lf_X11_98 dX11_kitchen_17 (fun H locs hw => ?_)
  refine r_mem hf hw (fun σ4 hw hf => ?_)
  refine lv_aload_n hx hb dX11_kitchen_20 rfl (lv_at hl 1 rfl) ?_
  refine lv_aload_n hx hb dX11_kitchen_21 rfl (lv_at hl 1 rfl) ?_
  refine r_getr 13 X hw sh_0 fd_11_1 rfl rfl lf_X11_31 dX11_kitchen_22 ?_
  refine r_getr 14 X hw sh_13 fd_6_0 rfl rfl lf_X11_105 dX11_kitchen_25 ?_
  refine r_geti X hw sh_14 fd_8_10 rfl lf_X11_109 dX11_kitchen_28 ?_
  refine r_puti X hw sh_0 fd_11_10 fp_11_10 rfl rfl lf_X11_76 dX11_kitchen_31 (fun H locs hw => ?_)
  refine r_mem hf hw (fun σ5 hw hf => ?_)
  refine lv_aload_n hx hb dX11_kitchen_34 rfl (lv_at hl 1 rfl) ?_
  refine lv_aload_n hx hb dX11_kitchen_35 rfl (lv_at hl 1 rfl) ?_
  refine r_getr 13 X hw sh_0 fd_11_1 rfl rfl lf_X11_31 dX11_kitchen_36 ?_
  refine r_getr 14 X hw sh_13 fd_6_0 rfl rfl lf_X11_105 dX11_kitchen_39 ?_
  refine r_geti X hw sh_14 fd_8_11 rfl lf_X11_112 dX11_kitchen_42 ?_
  refine r_puti X hw sh_0 fd_11_11 fp_11_11 rfl rfl lf_X11_80 dX11_kitchen_45 (fun H locs hw => ?_)
  refine r_mem hf hw (fun σ6 hw hf => ?_)
  refine lv_aload_n hx hb dX11_kitchen_48 rfl (lv_at hl 1 rfl) ?_
  refine r_geti X hw sh_0 fd_11_10 rfl lf_X11_76 dX11_kitchen_49 ?_
  refine r_if_eq (tgt := 61) X dX11_kitchen_52 (by decide) hf (fun hc hf => ?_) (fun hc hf => ?_)
  · refine lv_aload_n hx hb dX11_kitchen_61 rfl (lv_at hl 1 rfl) ?_
    refine r_getp X hw sh_0 fd_11_8 rfl lf_X11_19 dX11_kitchen_62 hf (fun hg7 hf => ?_)
    refine lv_astore_n (lv' := [(2, .ref (ad (σ6 0 8).toNat)), (1, .int (mI r2)), (0, .ref (ad 0))]) hx hb dX11_kitchen_65 rfl hl (by decide) rfl (fun ls hl => ?_)
    refine lv_aload_n hx hb dX11_kitchen_66 rfl (lv_at hl 2 rfl) ?_
    refine lv_aload_n hx hb dX11_kitchen_67 rfl (lv_at hl 2 rfl) ?_
    refine r_getp X hw sh_0 fd_11_9 rfl lf_X11_23 dX11_kitchen_68 hf (fun hg8 hf => ?_)
    refine r_putd X hw sh_0 fd_11_8 fp_11_8 rfl rfl lf_X11_19 dX11_kitchen_71 (fun H locs hw => ?_)
    refine r_mem hf hw (fun σ9 hw hf => ?_)
    refine lv_aload_n hx hb dX11_kitchen_74 rfl (lv_at hl 2 rfl) ?_
    refine lv_aload_n hx hb dX11_kitchen_75 rfl (lv_at hl 0 rfl) ?_
    refine r_putd X hw sh_0 fd_11_9 fp_11_9 rfl rfl lf_X11_23 dX11_kitchen_76 (fun H locs hw => ?_)
    refine r_mem hf hw (fun σ10 hw hf => ?_)
    refine lv_aload_n hx hb dX11_kitchen_79 rfl (lv_at hl 2 rfl) ?_
    refine r_getr 20 X hw sh_0 fd_11_2 rfl rfl lf_X11_40 dX11_kitchen_80 ?_
    refine lv_aload_n hx hb dX11_kitchen_83 rfl (lv_at hl 2 rfl) ?_
    refine r_getp X hw sh_0 fd_11_8 rfl lf_X11_19 dX11_kitchen_84 hf (fun hg11 hf => ?_)
    refine r_cvv (rest := []) [.ref (ad (σ10 0 8).toNat)] X hw (fun ra σa h => c_X10_begin l D cy ad bs F 20 (σ10 0 8).toNat σ10 ra σa sh_w20 (mPlan_z hg11) h) sh_20 rfl (by decide) rfl km_X10_begin kv_X10_begin lm_X11_113 dX11_kitchen_87 hl.1 rfl rfl (Nat.le_of_ble_eq_true rfl) ⟨by decide, by decide⟩ ⟨Nat.zero_le _, Nat.zero_le _⟩ hf (fun r12 σ13 _ hf H locs hw => ?_)
    refine lv_aload_n hx hb dX11_kitchen_90 rfl (lv_at hl 2 rfl) ?_
    refine r_getr 54 X hw sh_0 fd_11_5 rfl rfl lf_X11_61 dX11_kitchen_91 ?_
    refine r_cvv (rest := []) [] X hw (fun ra σa h => c_X3_forget l D cy ad bs F σ13 ra σa  h) sh_54 rfl (by decide) rfl km_X3_forget kv_X3_forget lm_X11_116 dX11_kitchen_94 hl.1 rfl rfl (Nat.le_of_ble_eq_true rfl) ⟨by decide, by decide⟩ ⟨Nat.zero_le _, Nat.zero_le _⟩ hf (fun r14 σ15 _ hf H locs hw => ?_)
    refine lv_aload_n hx hb dX11_kitchen_97 rfl (lv_at hl 2 rfl) ?_
    refine r_getr 35 X hw sh_0 fd_11_4 rfl rfl lf_X11_54 dX11_kitchen_98 ?_
    refine r_cvv (rest := []) [] X hw (fun ra σa h => c_X9_forget l D cy ad bs F σ15 ra σa  h) sh_35 rfl (by decide) rfl km_X9_forget kv_X9_forget lm_X11_119 dX11_kitchen_101 hl.1 rfl rfl (Nat.le_of_ble_eq_true rfl) ⟨by decide, by decide⟩ ⟨Nat.zero_le _, Nat.zero_le _⟩ hf (fun r16 σ17 _ hf H locs hw => ?_)
    refine lv_iload_n hx hb dX11_kitchen_104 rfl (lv_at hl 1 rfl) ?_
    exact r_iret X hw dX11_kitchen_105 hf
  · refine lv_aload_n hx hb dX11_kitchen_55 rfl (lv_at hl 1 rfl) ?_
    refine lv_iconst (v := mI 1) hx hb dX11_kitchen_56 rfl ?_
    refine r_cvi (rest := []) [.int (mI 1)] X hw (fun ra σa h => c_X11_refuse l D cy ad bs F 1 σ6 ra σa  h) sh_0 rfl (by decide) rfl km_X11_refuse kv_X11_refuse lm_X11_90 dX11_kitchen_57 hl.1 rfl rfl (Nat.le_of_ble_eq_true rfl) ⟨by decide, by decide⟩ ⟨Nat.zero_le _, Nat.zero_le _⟩ hf (fun r18 σ19 _ hf H locs hw => ?_)
    exact r_iret X hw dX11_kitchen_60 hf
def g_X11_fault_b22 (F : Nat)  (t0 : Int) (σ : mMem) : mRs := some (t0, σ)
set_option maxRecDepth 100000 in
set_option maxHeartbeats 4000000 in
theorem w_X11_fault_b22 {p : Program} {l : Launch} {e : Env} {s : State} {m : MethodId} {args : Array Value} {below : List Frame} {meth : Method} {c : Code} {D : va_G} {cy : Nat → ClassId} {ad : Nat → Nat} {bs : Nat} {F : Nat}  (X : mCx p m c cX11_fault 2 s args RX11 meth D cy (some .int))  {r : Int} {σ' : mMem}   {t0 : Int} {σ : mMem} {H : Heap} {locs : List Loc} {ls : Array Slot} (hw : mWd D cy ad bs true mN σ s.heap H locs) (hl : lv_has ls 2 [(0, .ref (ad 0))]) (hf : g_X11_fault_b22 F t0 σ = some (r, σ')) : mGi p l e 1 s m args below meth c D cy ad bs r σ' H locs (F0 m 22 ls [.int (mI t0)]) := by
  obtain ⟨⟨hx, hb, -, -, -⟩, -⟩ := id X
  unfold g_X11_fault_b22 at hf
  exact r_iret X hw dX11_fault_22 hf
def g_X11_fault (F : Nat) (x1 : Int) (σ : mMem) : mRs := if ¬ mw x1 = 0 then (if ¬ mw x1 = mw 1 then (g_X11_fault_b22 F (-1) σ) else (g_X11_fault_b22 F (σ 0 11) σ)) else (some (σ 0 10, σ))
set_option maxRecDepth 100000 in
set_option maxHeartbeats 4000000 in
theorem c_X11_fault (l : Launch) (D : va_G) (cy : Nat → ClassId) (ad : Nat → Nat) (bs : Nat) (F : Nat)  (x1 : Int) (σ : mMem) (r : Int) (σ' : mMem)  (hf : g_X11_fault F x1 σ = some (r, σ')) : mCi l D cy ad bs yX11_fault cX11_fault 2 (some .int) 1 [.ref (ad 0), .int (mI x1)] σ r σ' := by
  refine mCi.of (lv := [(0, .ref (ad 0)), (1, .int (mI x1))]) km_X11_fault.2.2.2.2.2 (Nat.le_of_ble_eq_true rfl) rfl (fun p e s m args below meth c H locs ls X hw hl => ?_)
  obtain ⟨⟨hx, hb, -, -, -⟩, -⟩ := id X
  unfold g_X11_fault at hf
  refine lv_iload_n hx hb dX11_fault_0 rfl (lv_at hl 1 rfl) ?_
  refine r_if_ne (tgt := 9) X dX11_fault_1 (by decide) hf (fun hc hf => ?_) (fun hc hf => ?_)
  · refine lv_iload_n hx hb dX11_fault_9 rfl (lv_at hl 1 rfl) ?_
    refine lv_iconst (v := mI 1) hx hb dX11_fault_10 rfl ?_
    refine r_icmp_ne (tgt := 21) X dX11_fault_11 (by decide) hf (fun hc hf => ?_) (fun hc hf => ?_)
    · refine lv_iconst (v := mI (-1)) hx hb dX11_fault_21 rfl ?_
      exact w_X11_fault_b22 X hw (lv_sub hl [0] rfl) hf
    · refine lv_aload_n hx hb dX11_fault_14 rfl (lv_at hl 0 rfl) ?_
      refine r_geti X hw sh_0 fd_11_11 rfl lf_X11_80 dX11_fault_15 ?_
      refine lv_goto (tgt := 22) hx hb dX11_fault_18 (by decide) ?_
      exact w_X11_fault_b22 X hw (lv_sub hl [0] rfl) hf
  · refine lv_aload_n hx hb dX11_fault_4 rfl (lv_at hl 0 rfl) ?_
    refine r_geti X hw sh_0 fd_11_10 rfl lf_X11_76 dX11_fault_5 ?_
    exact r_iret X hw dX11_fault_8 hf
def g_X11_has (F : Nat) (x1 : Int) (σ : mMem) : mRs := if mw x1 = 0 then (if σ 0 8 = 3 ∨ σ 0 8 = 8 then some (σ (σ 0 8).toNat 9, σ) else none) else (if mw x1 = 1 then (if σ 0 8 = 3 ∨ σ 0 8 = 8 then some (σ (σ 0 8).toNat 10, σ) else none) else (if mw x1 = 2 then (if σ 0 8 = 3 ∨ σ 0 8 = 8 then some (σ (σ 0 8).toNat 11, σ) else none) else (if mw x1 = 3 then (mob (g_X10_blackCells F 20 σ) (fun r4 σ5 => some (r4, σ5))) else (if mw x1 = 4 then (some (σ 20 4, σ)) else (if mw x1 = 5 then (some (σ 20 5, σ)) else (if mw x1 = 6 then (mob (g_X10_lostBoxes F 20 σ) (fun r6 σ7 => some (r6, σ7))) else (if mw x1 = 7 then (mob (g_X10_emptyBoxes F 20 σ) (fun r8 σ9 => some (r8, σ9))) else (if mw x1 = 8 then (mob (g_X3_told F σ) (fun r10 σ11 => some (r10, σ11))) else (if mw x1 = 9 then (some (σ 54 4, σ)) else (if mw x1 = 10 then (some (σ 0 12, σ)) else (some ((-1), σ))))))))))))
set_option maxRecDepth 100000 in
set_option maxHeartbeats 4000000 in
theorem c_X11_has (l : Launch) (D : va_G) (cy : Nat → ClassId) (ad : Nat → Nat) (bs : Nat) (F : Nat)  (x1 : Int) (σ : mMem) (r : Int) (σ' : mMem)  (hf : g_X11_has F x1 σ = some (r, σ')) : mCi l D cy ad bs yX11_has cX11_has 2 (some .int) 5 [.ref (ad 0), .int (mI x1)] σ r σ' := by
  refine mCi.of (lv := [(0, .ref (ad 0)), (1, .int (mI x1))]) km_X11_has.2.2.2.2.2 (Nat.le_of_ble_eq_true rfl) rfl (fun p e s m args below meth c H locs ls X hw hl => ?_)
  obtain ⟨⟨hx, hb, -, -, -⟩, -⟩ := id X
  unfold g_X11_has at hf
  refine lv_iload_n hx hb dX11_has_0 rfl (lv_at hl 1 rfl) ?_
  refine r_case hf (fun hc0 hf => ?_) (fun hc0 hf => ?_)
  · refine r_tin (k := 0) (off := 59) (tgt := 60) X dX11_has_1 hc0 (by decide) (by decide) rfl (by decide) ?_
    refine lv_aload_n hx hb dX11_has_60 rfl (lv_at hl 0 rfl) ?_
    refine r_getp X hw sh_0 fd_11_8 rfl lf_X11_19 dX11_has_61 hf (fun hg1 hf => ?_)
    refine r_geti X hw (mPlan_z hg1).1 fd_5_9 rfl lf_X11_120 dX11_has_64 ?_
    exact r_iret X hw dX11_has_67 hf
  refine r_case hf (fun hc1 hf => ?_) (fun hc1 hf => ?_)
  · refine r_tin (k := 1) (off := 67) (tgt := 68) X dX11_has_1 hc1 (by decide) (by decide) rfl (by decide) ?_
    refine lv_aload_n hx hb dX11_has_68 rfl (lv_at hl 0 rfl) ?_
    refine r_getp X hw sh_0 fd_11_8 rfl lf_X11_19 dX11_has_69 hf (fun hg2 hf => ?_)
    refine r_geti X hw (mPlan_z hg2).1 fd_5_10 rfl lf_X11_123 dX11_has_72 ?_
    exact r_iret X hw dX11_has_75 hf
  refine r_case hf (fun hc2 hf => ?_) (fun hc2 hf => ?_)
  · refine r_tin (k := 2) (off := 75) (tgt := 76) X dX11_has_1 hc2 (by decide) (by decide) rfl (by decide) ?_
    refine lv_aload_n hx hb dX11_has_76 rfl (lv_at hl 0 rfl) ?_
    refine r_getp X hw sh_0 fd_11_8 rfl lf_X11_19 dX11_has_77 hf (fun hg3 hf => ?_)
    refine r_geti X hw (mPlan_z hg3).1 fd_5_11 rfl lf_X11_126 dX11_has_80 ?_
    exact r_iret X hw dX11_has_83 hf
  refine r_case hf (fun hc3 hf => ?_) (fun hc3 hf => ?_)
  · refine r_tin (k := 3) (off := 83) (tgt := 84) X dX11_has_1 hc3 (by decide) (by decide) rfl (by decide) ?_
    refine lv_aload_n hx hb dX11_has_84 rfl (lv_at hl 0 rfl) ?_
    refine r_getr 20 X hw sh_0 fd_11_2 rfl rfl lf_X11_40 dX11_has_85 ?_
    refine r_cvi (rest := []) [] X hw (fun ra σa h => c_X10_blackCells l D cy ad bs F 20 σ ra σa sh_w20 h) sh_20 rfl (by decide) rfl km_X10_blackCells kv_X10_blackCells lm_X11_129 dX11_has_88 hl.1 rfl rfl (Nat.le_of_ble_eq_true rfl) ⟨by decide, by decide⟩ ⟨Nat.zero_le _, Nat.zero_le _⟩ hf (fun r4 σ5 _ hf H locs hw => ?_)
    exact r_iret X hw dX11_has_91 hf
  refine r_case hf (fun hc4 hf => ?_) (fun hc4 hf => ?_)
  · refine r_tin (k := 4) (off := 91) (tgt := 92) X dX11_has_1 hc4 (by decide) (by decide) rfl (by decide) ?_
    refine lv_aload_n hx hb dX11_has_92 rfl (lv_at hl 0 rfl) ?_
    refine r_getr 20 X hw sh_0 fd_11_2 rfl rfl lf_X11_40 dX11_has_93 ?_
    refine r_geti X hw sh_20 fd_10_4 rfl lf_X11_133 dX11_has_96 ?_
    exact r_iret X hw dX11_has_99 hf
  refine r_case hf (fun hc5 hf => ?_) (fun hc5 hf => ?_)
  · refine r_tin (k := 5) (off := 99) (tgt := 100) X dX11_has_1 hc5 (by decide) (by decide) rfl (by decide) ?_
    refine lv_aload_n hx hb dX11_has_100 rfl (lv_at hl 0 rfl) ?_
    refine r_getr 20 X hw sh_0 fd_11_2 rfl rfl lf_X11_40 dX11_has_101 ?_
    refine r_geti X hw sh_20 fd_10_5 rfl lf_X11_136 dX11_has_104 ?_
    exact r_iret X hw dX11_has_107 hf
  refine r_case hf (fun hc6 hf => ?_) (fun hc6 hf => ?_)
  · refine r_tin (k := 6) (off := 107) (tgt := 108) X dX11_has_1 hc6 (by decide) (by decide) rfl (by decide) ?_
    refine lv_aload_n hx hb dX11_has_108 rfl (lv_at hl 0 rfl) ?_
    refine r_getr 20 X hw sh_0 fd_11_2 rfl rfl lf_X11_40 dX11_has_109 ?_
    refine r_cvi (rest := []) [] X hw (fun ra σa h => c_X10_lostBoxes l D cy ad bs F 20 σ ra σa sh_w20 h) sh_20 rfl (by decide) rfl km_X10_lostBoxes kv_X10_lostBoxes lm_X11_139 dX11_has_112 hl.1 rfl rfl (Nat.le_of_ble_eq_true rfl) ⟨by decide, by decide⟩ ⟨Nat.zero_le _, Nat.zero_le _⟩ hf (fun r6 σ7 _ hf H locs hw => ?_)
    exact r_iret X hw dX11_has_115 hf
  refine r_case hf (fun hc7 hf => ?_) (fun hc7 hf => ?_)
  · refine r_tin (k := 7) (off := 115) (tgt := 116) X dX11_has_1 hc7 (by decide) (by decide) rfl (by decide) ?_
    refine lv_aload_n hx hb dX11_has_116 rfl (lv_at hl 0 rfl) ?_
    refine r_getr 20 X hw sh_0 fd_11_2 rfl rfl lf_X11_40 dX11_has_117 ?_
    refine r_cvi (rest := []) [] X hw (fun ra σa h => c_X10_emptyBoxes l D cy ad bs F 20 σ ra σa sh_w20 h) sh_20 rfl (by decide) rfl km_X10_emptyBoxes kv_X10_emptyBoxes lm_X11_142 dX11_has_120 hl.1 rfl rfl (Nat.le_of_ble_eq_true rfl) ⟨by decide, by decide⟩ ⟨Nat.zero_le _, Nat.zero_le _⟩ hf (fun r8 σ9 _ hf H locs hw => ?_)
    exact r_iret X hw dX11_has_123 hf
  refine r_case hf (fun hc8 hf => ?_) (fun hc8 hf => ?_)
  · refine r_tin (k := 8) (off := 123) (tgt := 124) X dX11_has_1 hc8 (by decide) (by decide) rfl (by decide) ?_
    refine lv_aload_n hx hb dX11_has_124 rfl (lv_at hl 0 rfl) ?_
    refine r_getr 54 X hw sh_0 fd_11_5 rfl rfl lf_X11_61 dX11_has_125 ?_
    refine r_cvi (rest := []) [] X hw (fun ra σa h => c_X3_told l D cy ad bs F σ ra σa  h) sh_54 rfl (by decide) rfl km_X3_told kv_X3_told lm_X11_145 dX11_has_128 hl.1 rfl rfl (Nat.le_of_ble_eq_true rfl) ⟨by decide, by decide⟩ ⟨Nat.zero_le _, Nat.zero_le _⟩ hf (fun r10 σ11 _ hf H locs hw => ?_)
    exact r_iret X hw dX11_has_131 hf
  refine r_case hf (fun hc9 hf => ?_) (fun hc9 hf => ?_)
  · refine r_tin (k := 9) (off := 131) (tgt := 132) X dX11_has_1 hc9 (by decide) (by decide) rfl (by decide) ?_
    refine lv_aload_n hx hb dX11_has_132 rfl (lv_at hl 0 rfl) ?_
    refine r_getr 54 X hw sh_0 fd_11_5 rfl rfl lf_X11_61 dX11_has_133 ?_
    refine r_geti X hw sh_54 fd_3_4 rfl lf_X11_148 dX11_has_136 ?_
    exact r_iret X hw dX11_has_139 hf
  refine r_case hf (fun hc10 hf => ?_) (fun hc10 hf => ?_)
  · refine r_tin (k := 10) (off := 139) (tgt := 140) X dX11_has_1 hc10 (by decide) (by decide) rfl (by decide) ?_
    refine lv_aload_n hx hb dX11_has_140 rfl (lv_at hl 0 rfl) ?_
    refine r_geti X hw sh_0 fd_11_12 rfl lf_X11_83 dX11_has_141 ?_
    exact r_iret X hw dX11_has_144 hf
  refine r_tout (tgt := 145) X dX11_has_1 (by omega) (by decide) ?_
  refine lv_iconst (v := mI (-1)) hx hb dX11_has_145 rfl ?_
  exact r_iret X hw dX11_has_146 hf
def g_X11_letter_b21 (F : Nat)  (σ : mMem) : mRs := some ((-1), σ)
set_option maxRecDepth 100000 in
set_option maxHeartbeats 4000000 in
theorem w_X11_letter_b21 {p : Program} {l : Launch} {e : Env} {s : State} {m : MethodId} {args : Array Value} {below : List Frame} {meth : Method} {c : Code} {D : va_G} {cy : Nat → ClassId} {ad : Nat → Nat} {bs : Nat} {F : Nat}  (X : mCx p m c cX11_letter 3 s args RX11 meth D cy (some .int))  {r : Int} {σ' : mMem}    {σ : mMem} {H : Heap} {locs : List Loc} {ls : Array Slot} (hw : mWd D cy ad bs true mN σ s.heap H locs) (hl : lv_has ls 3 [(0, .ref (ad 0))]) (hf : g_X11_letter_b21 F  σ = some (r, σ')) : mGi p l e 2 s m args below meth c D cy ad bs r σ' H locs (F0 m 21 ls []) := by
  obtain ⟨⟨hx, hb, -, -, -⟩, -⟩ := id X
  unfold g_X11_letter_b21 at hf
  refine lv_iconst (v := mI (-1)) hx hb dX11_letter_21 rfl ?_
  exact r_iret X hw dX11_letter_22 hf
def g_X11_letter (F : Nat) (x1 x2 : Int) (σ : mMem) : mRs := if σ 0 8 = 3 ∨ σ 0 8 = 8 then mob (g_X5_hasBox F (σ 0 8).toNat x1 σ) (fun r2 σ3 => if mw r2 = 0 then (g_X11_letter_b21 F σ3) else (if mw x2 < 0 then (g_X11_letter_b21 F σ3) else (if mw x2 < mw 6 then (if σ3 0 8 = 3 ∨ σ3 0 8 = 8 then if 0 ≤ mw x1 ∧ mw x1 < (6 : Int) then mob (g_X5_shiftOf F x2 σ3) (fun r5 σ6 => some (mand (mshr (σ3 ((σ3 0 8).toNat + 2) (mw x1).toNat) r5) 31, σ6)) else none else none) else (g_X11_letter_b21 F σ3)))) else none
set_option maxRecDepth 100000 in
set_option maxHeartbeats 4000000 in
theorem c_X11_letter (l : Launch) (D : va_G) (cy : Nat → ClassId) (ad : Nat → Nat) (bs : Nat) (F : Nat)  (x1 x2 : Int) (σ : mMem) (r : Int) (σ' : mMem)  (hf : g_X11_letter F x1 x2 σ = some (r, σ')) : mCi l D cy ad bs yX11_letter cX11_letter 3 (some .int) 2 [.ref (ad 0), .int (mI x1), .int (mI x2)] σ r σ' := by
  refine mCi.of (lv := [(0, .ref (ad 0)), (1, .int (mI x1)), (2, .int (mI x2))]) km_X11_letter.2.2.2.2.2 (Nat.le_of_ble_eq_true rfl) rfl (fun p e s m args below meth c H locs ls X hw hl => ?_)
  obtain ⟨⟨hx, hb, -, -, -⟩, -⟩ := id X
  unfold g_X11_letter at hf
  refine lv_aload_n hx hb dX11_letter_0 rfl (lv_at hl 0 rfl) ?_
  refine r_getp X hw sh_0 fd_11_8 rfl lf_X11_19 dX11_letter_1 hf (fun hg1 hf => ?_)
  refine lv_iload_n hx hb dX11_letter_4 rfl (lv_at hl 1 rfl) ?_
  refine r_cvi (rest := []) [.int (mI x1)] X hw (fun ra σa h => c_X5_hasBox l D cy ad bs F (σ 0 8).toNat x1 σ ra σa (mPlan_z hg1) h) (mPlan_z hg1).1 rfl (by decide) rfl km_X5_hasBox kv_X5_hasBox lm_X11_151 dX11_letter_5 hl.1 rfl rfl (Nat.le_of_ble_eq_true rfl) ⟨by decide, by decide⟩ ⟨Nat.zero_le _, Nat.zero_le _⟩ hf (fun r2 σ3 _ hf H locs hw => ?_)
  refine r_if_eq (tgt := 21) X dX11_letter_8 (by decide) hf (fun hc hf => ?_) (fun hc hf => ?_)
  · exact w_X11_letter_b21 X hw (lv_sub hl [0] rfl) hf
  · refine lv_iload_n hx hb dX11_letter_11 rfl (lv_at hl 2 rfl) ?_
    refine r_if_lt (tgt := 21) X dX11_letter_12 (by decide) hf (fun hc hf => ?_) (fun hc hf => ?_)
    · exact w_X11_letter_b21 X hw (lv_sub hl [0] rfl) hf
    · refine lv_iload_n hx hb dX11_letter_15 rfl (lv_at hl 2 rfl) ?_
      refine lv_bipush (v := mI 6) hx hb dX11_letter_16 (by decide) ?_
      refine r_icmp_lt (tgt := 23) X dX11_letter_18 (by decide) hf (fun hc hf => ?_) (fun hc hf => ?_)
      · refine lv_aload_n hx hb dX11_letter_23 rfl (lv_at hl 0 rfl) ?_
        refine r_getp X hw sh_0 fd_11_8 rfl lf_X11_19 dX11_letter_24 hf (fun hg4 hf => ?_)
        refine r_getr ((σ3 0 8).toNat + 2) X hw (mPlan_z hg4).1 fd_5_1 rfl rfl lf_X11_154 dX11_letter_27 ?_
        refine lv_iload_n hx hb dX11_letter_30 rfl (lv_at hl 1 rfl) ?_
        refine r_iald (6 : Int) rfl X hw (mPlan_z hg4).2.2.1 dX11_letter_31 hf (fun hf => ?_)
        refine lv_iload_n hx hb dX11_letter_32 rfl (lv_at hl 2 rfl) ?_
        refine r_csi (rest := [.int (mI (σ3 ((σ3 0 8).toNat + 2) (mw x1).toNat))]) [.int (mI x2)] X hw (fun ra σa h => c_X5_shiftOf l D cy ad bs F x2 σ3 ra σa  h) km_X5_shiftOf ks_X5_shiftOf lm_X11_157 dX11_letter_33 hl.1 rfl rfl (Nat.le_of_ble_eq_true rfl) ⟨by decide, by decide⟩ ⟨Nat.zero_le _, Nat.zero_le _⟩ hf (fun r5 σ6 _ hf H locs hw => ?_)
        refine r_ishr X dX11_letter_36 ?_
        refine lv_bipush (v := mI 31) hx hb dX11_letter_37 (by decide) ?_
        refine r_iand X dX11_letter_39 ?_
        exact r_iret X hw dX11_letter_40 hf
      · exact w_X11_letter_b21 X hw (lv_sub hl [0] rfl) hf
def g_X11_cell_b67 (F : Nat)  (t0 : Int) (σ : mMem) : mRs := some (t0, σ)
set_option maxRecDepth 100000 in
set_option maxHeartbeats 4000000 in
theorem w_X11_cell_b67 {p : Program} {l : Launch} {e : Env} {s : State} {m : MethodId} {args : Array Value} {below : List Frame} {meth : Method} {c : Code} {D : va_G} {cy : Nat → ClassId} {ad : Nat → Nat} {bs : Nat} {F : Nat}  (X : mCx p m c cX11_cell 4 s args RX11 meth D cy (some .int))  {r : Int} {σ' : mMem}   {t0 : Int} {σ : mMem} {H : Heap} {locs : List Loc} {ls : Array Slot} (hw : mWd D cy ad bs true mN σ s.heap H locs) (hl : lv_has ls 4 [(0, .ref (ad 0))]) (hf : g_X11_cell_b67 F t0 σ = some (r, σ')) : mGi p l e 4 s m args below meth c D cy ad bs r σ' H locs (F0 m 67 ls [.int (mI t0)]) := by
  obtain ⟨⟨hx, hb, -, -, -⟩, -⟩ := id X
  unfold g_X11_cell_b67 at hf
  exact r_iret X hw dX11_cell_67 hf
def g_X11_cell (F : Nat) (x1 x2 x3 : Int) (σ : mMem) : mRs := if σ 0 8 = 3 ∨ σ 0 8 = 8 then mob (g_X5_hasCell F (σ 0 8).toNat x1 x2 σ) (fun r2 σ3 => if ¬ mw r2 = 0 then (if mw x3 = 0 then (if σ3 0 8 = 3 ∨ σ3 0 8 = 8 then mob (g_X5_greyAt F (σ3 0 8).toNat x1 x2 σ3) (fun r5 σ6 => some (r5, σ6)) else none) else (if mw x3 = 1 then (mob (g_X10_isBlack F 20 x1 x2 σ3) (fun r7 σ8 => if mw r7 = 0 then (g_X11_cell_b67 F 0 σ8) else (g_X11_cell_b67 F 1 σ8))) else (if mw x3 = 2 then (mob (g_X10_boxOn F 20 x1 x2 σ3) (fun r9 σ10 => some (r9, σ10))) else (some ((-1), σ3))))) else (some ((-1), σ3))) else none
set_option maxRecDepth 100000 in
set_option maxHeartbeats 4000000 in
theorem c_X11_cell (l : Launch) (D : va_G) (cy : Nat → ClassId) (ad : Nat → Nat) (bs : Nat) (F : Nat)  (x1 x2 x3 : Int) (σ : mMem) (r : Int) (σ' : mMem)  (hf : g_X11_cell F x1 x2 x3 σ = some (r, σ')) : mCi l D cy ad bs yX11_cell cX11_cell 4 (some .int) 4 [.ref (ad 0), .int (mI x1), .int (mI x2), .int (mI x3)] σ r σ' := by
  refine mCi.of (lv := [(0, .ref (ad 0)), (1, .int (mI x1)), (2, .int (mI x2)), (3, .int (mI x3))]) km_X11_cell.2.2.2.2.2 (Nat.le_of_ble_eq_true rfl) rfl (fun p e s m args below meth c H locs ls X hw hl => ?_)
  obtain ⟨⟨hx, hb, -, -, -⟩, -⟩ := id X
  unfold g_X11_cell at hf
  refine lv_aload_n hx hb dX11_cell_0 rfl (lv_at hl 0 rfl) ?_
  refine r_getp X hw sh_0 fd_11_8 rfl lf_X11_19 dX11_cell_1 hf (fun hg1 hf => ?_)
  refine lv_iload_n hx hb dX11_cell_4 rfl (lv_at hl 1 rfl) ?_
  refine lv_iload_n hx hb dX11_cell_5 rfl (lv_at hl 2 rfl) ?_
  refine r_cvi (rest := []) [.int (mI x1), .int (mI x2)] X hw (fun ra σa h => c_X5_hasCell l D cy ad bs F (σ 0 8).toNat x1 x2 σ ra σa (mPlan_z hg1) h) (mPlan_z hg1).1 rfl (by decide) rfl km_X5_hasCell kv_X5_hasCell lm_X11_160 dX11_cell_6 hl.1 rfl rfl (Nat.le_of_ble_eq_true rfl) ⟨by decide, by decide⟩ ⟨Nat.zero_le _, Nat.zero_le _⟩ hf (fun r2 σ3 _ hf H locs hw => ?_)
  refine r_if_ne (tgt := 14) X dX11_cell_9 (by decide) hf (fun hc hf => ?_) (fun hc hf => ?_)
  · refine lv_iload_n hx hb dX11_cell_14 rfl (lv_at hl 3 rfl) ?_
    refine r_case hf (fun hc0 hf => ?_) (fun hc0 hf => ?_)
    · refine r_tin (k := 0) (off := 25) (tgt := 40) X dX11_cell_15 hc0 (by decide) (by decide) rfl (by decide) ?_
      refine lv_aload_n hx hb dX11_cell_40 rfl (lv_at hl 0 rfl) ?_
      refine r_getp X hw sh_0 fd_11_8 rfl lf_X11_19 dX11_cell_41 hf (fun hg4 hf => ?_)
      refine lv_iload_n hx hb dX11_cell_44 rfl (lv_at hl 1 rfl) ?_
      refine lv_iload_n hx hb dX11_cell_45 rfl (lv_at hl 2 rfl) ?_
      refine r_cvi (rest := []) [.int (mI x1), .int (mI x2)] X hw (fun ra σa h => c_X5_greyAt l D cy ad bs F (σ3 0 8).toNat x1 x2 σ3 ra σa (mPlan_z hg4) h) (mPlan_z hg4).1 rfl (by decide) rfl km_X5_greyAt kv_X5_greyAt lm_X11_164 dX11_cell_46 hl.1 rfl rfl (Nat.le_of_ble_eq_true rfl) ⟨by decide, by decide⟩ ⟨Nat.zero_le _, Nat.zero_le _⟩ hf (fun r5 σ6 _ hf H locs hw => ?_)
      exact r_iret X hw dX11_cell_49 hf
    refine r_case hf (fun hc1 hf => ?_) (fun hc1 hf => ?_)
    · refine r_tin (k := 1) (off := 35) (tgt := 50) X dX11_cell_15 hc1 (by decide) (by decide) rfl (by decide) ?_
      refine lv_aload_n hx hb dX11_cell_50 rfl (lv_at hl 0 rfl) ?_
      refine r_getr 20 X hw sh_0 fd_11_2 rfl rfl lf_X11_40 dX11_cell_51 ?_
      refine lv_iload_n hx hb dX11_cell_54 rfl (lv_at hl 1 rfl) ?_
      refine lv_iload_n hx hb dX11_cell_55 rfl (lv_at hl 2 rfl) ?_
      refine r_cvi (rest := []) [.int (mI x1), .int (mI x2)] X hw (fun ra σa h => c_X10_isBlack l D cy ad bs F 20 x1 x2 σ3 ra σa sh_w20 h) sh_20 rfl (by decide) rfl km_X10_isBlack kv_X10_isBlack lm_X11_168 dX11_cell_56 hl.1 rfl rfl (Nat.le_of_ble_eq_true rfl) ⟨by decide, by decide⟩ ⟨Nat.zero_le _, Nat.zero_le _⟩ hf (fun r7 σ8 _ hf H locs hw => ?_)
      refine r_if_eq (tgt := 66) X dX11_cell_59 (by decide) hf (fun hc hf => ?_) (fun hc hf => ?_)
      · refine lv_iconst (v := mI 0) hx hb dX11_cell_66 rfl ?_
        exact w_X11_cell_b67 X hw (lv_sub hl [0] rfl) hf
      · refine lv_iconst (v := mI 1) hx hb dX11_cell_62 rfl ?_
        refine lv_goto (tgt := 67) hx hb dX11_cell_63 (by decide) ?_
        exact w_X11_cell_b67 X hw (lv_sub hl [0] rfl) hf
    refine r_case hf (fun hc2 hf => ?_) (fun hc2 hf => ?_)
    · refine r_tin (k := 2) (off := 53) (tgt := 68) X dX11_cell_15 hc2 (by decide) (by decide) rfl (by decide) ?_
      refine lv_aload_n hx hb dX11_cell_68 rfl (lv_at hl 0 rfl) ?_
      refine r_getr 20 X hw sh_0 fd_11_2 rfl rfl lf_X11_40 dX11_cell_69 ?_
      refine lv_iload_n hx hb dX11_cell_72 rfl (lv_at hl 1 rfl) ?_
      refine lv_iload_n hx hb dX11_cell_73 rfl (lv_at hl 2 rfl) ?_
      refine r_cvi (rest := []) [.int (mI x1), .int (mI x2)] X hw (fun ra σa h => c_X10_boxOn l D cy ad bs F 20 x1 x2 σ3 ra σa sh_w20 h) sh_20 rfl (by decide) rfl km_X10_boxOn kv_X10_boxOn lm_X11_171 dX11_cell_74 hl.1 rfl rfl (Nat.le_of_ble_eq_true rfl) ⟨by decide, by decide⟩ ⟨Nat.zero_le _, Nat.zero_le _⟩ hf (fun r9 σ10 _ hf H locs hw => ?_)
      exact r_iret X hw dX11_cell_77 hf
    refine r_tout (tgt := 78) X dX11_cell_15 (by omega) (by decide) ?_
    refine lv_iconst (v := mI (-1)) hx hb dX11_cell_78 rfl ?_
    exact r_iret X hw dX11_cell_79 hf
  · refine lv_iconst (v := mI (-1)) hx hb dX11_cell_12 rfl ?_
    exact r_iret X hw dX11_cell_13 hf
def g_X11_box_b21 (F : Nat)  (σ : mMem) : mRs := some ((-1), σ)
set_option maxRecDepth 100000 in
set_option maxHeartbeats 4000000 in
theorem w_X11_box_b21 {p : Program} {l : Launch} {e : Env} {s : State} {m : MethodId} {args : Array Value} {below : List Frame} {meth : Method} {c : Code} {D : va_G} {cy : Nat → ClassId} {ad : Nat → Nat} {bs : Nat} {F : Nat}  (X : mCx p m c cX11_box 3 s args RX11 meth D cy (some .int))  {r : Int} {σ' : mMem}    {σ : mMem} {H : Heap} {locs : List Loc} {ls : Array Slot} (hw : mWd D cy ad bs true mN σ s.heap H locs) (hl : lv_has ls 3 [(0, .ref (ad 0))]) (hf : g_X11_box_b21 F  σ = some (r, σ')) : mGi p l e 2 s m args below meth c D cy ad bs r σ' H locs (F0 m 21 ls []) := by
  obtain ⟨⟨hx, hb, -, -, -⟩, -⟩ := id X
  unfold g_X11_box_b21 at hf
  refine lv_iconst (v := mI (-1)) hx hb dX11_box_21 rfl ?_
  exact r_iret X hw dX11_box_22 hf
def g_X11_box (F : Nat) (x1 x2 : Int) (σ : mMem) : mRs := if σ 0 8 = 3 ∨ σ 0 8 = 8 then mob (g_X5_hasBox F (σ 0 8).toNat x1 σ) (fun r2 σ3 => if mw r2 = 0 then (g_X11_box_b21 F σ3) else (if mw x2 < 0 then (g_X11_box_b21 F σ3) else (if mw x2 ≤ mw 7 then (mob (g_X10_of F 20 x1 x2 σ3) (fun r4 σ5 => some (r4, σ5))) else (g_X11_box_b21 F σ3)))) else none
set_option maxRecDepth 100000 in
set_option maxHeartbeats 4000000 in
theorem c_X11_box (l : Launch) (D : va_G) (cy : Nat → ClassId) (ad : Nat → Nat) (bs : Nat) (F : Nat)  (x1 x2 : Int) (σ : mMem) (r : Int) (σ' : mMem)  (hf : g_X11_box F x1 x2 σ = some (r, σ')) : mCi l D cy ad bs yX11_box cX11_box 3 (some .int) 2 [.ref (ad 0), .int (mI x1), .int (mI x2)] σ r σ' := by
  refine mCi.of (lv := [(0, .ref (ad 0)), (1, .int (mI x1)), (2, .int (mI x2))]) km_X11_box.2.2.2.2.2 (Nat.le_of_ble_eq_true rfl) rfl (fun p e s m args below meth c H locs ls X hw hl => ?_)
  obtain ⟨⟨hx, hb, -, -, -⟩, -⟩ := id X
  unfold g_X11_box at hf
  refine lv_aload_n hx hb dX11_box_0 rfl (lv_at hl 0 rfl) ?_
  refine r_getp X hw sh_0 fd_11_8 rfl lf_X11_19 dX11_box_1 hf (fun hg1 hf => ?_)
  refine lv_iload_n hx hb dX11_box_4 rfl (lv_at hl 1 rfl) ?_
  refine r_cvi (rest := []) [.int (mI x1)] X hw (fun ra σa h => c_X5_hasBox l D cy ad bs F (σ 0 8).toNat x1 σ ra σa (mPlan_z hg1) h) (mPlan_z hg1).1 rfl (by decide) rfl km_X5_hasBox kv_X5_hasBox lm_X11_151 dX11_box_5 hl.1 rfl rfl (Nat.le_of_ble_eq_true rfl) ⟨by decide, by decide⟩ ⟨Nat.zero_le _, Nat.zero_le _⟩ hf (fun r2 σ3 _ hf H locs hw => ?_)
  refine r_if_eq (tgt := 21) X dX11_box_8 (by decide) hf (fun hc hf => ?_) (fun hc hf => ?_)
  · exact w_X11_box_b21 X hw (lv_sub hl [0] rfl) hf
  · refine lv_iload_n hx hb dX11_box_11 rfl (lv_at hl 2 rfl) ?_
    refine r_if_lt (tgt := 21) X dX11_box_12 (by decide) hf (fun hc hf => ?_) (fun hc hf => ?_)
    · exact w_X11_box_b21 X hw (lv_sub hl [0] rfl) hf
    · refine lv_iload_n hx hb dX11_box_15 rfl (lv_at hl 2 rfl) ?_
      refine lv_bipush (v := mI 7) hx hb dX11_box_16 (by decide) ?_
      refine r_icmp_le (tgt := 23) X dX11_box_18 (by decide) hf (fun hc hf => ?_) (fun hc hf => ?_)
      · refine lv_aload_n hx hb dX11_box_23 rfl (lv_at hl 0 rfl) ?_
        refine r_getr 20 X hw sh_0 fd_11_2 rfl rfl lf_X11_40 dX11_box_24 ?_
        refine lv_iload_n hx hb dX11_box_27 rfl (lv_at hl 1 rfl) ?_
        refine lv_iload_n hx hb dX11_box_28 rfl (lv_at hl 2 rfl) ?_
        refine r_cvi (rest := []) [.int (mI x1), .int (mI x2)] X hw (fun ra σa h => c_X10_of l D cy ad bs F 20 x1 x2 σ3 ra σa sh_w20 h) sh_20 rfl (by decide) rfl km_X10_of kv_X10_of lm_X11_174 dX11_box_29 hl.1 rfl rfl (Nat.le_of_ble_eq_true rfl) ⟨by decide, by decide⟩ ⟨Nat.zero_le _, Nat.zero_le _⟩ hf (fun r4 σ5 _ hf H locs hw => ?_)
        exact r_iret X hw dX11_box_32 hf
      · exact w_X11_box_b21 X hw (lv_sub hl [0] rfl) hf
def g_X11_sees (F : Nat) (x1 x2 : Int) (σ : mMem) : mRs := if σ 0 8 = 3 ∨ σ 0 8 = 8 then mob (g_X5_hasBox F (σ 0 8).toNat x1 σ) (fun r2 σ3 => if ¬ mw r2 = 0 then (if mw x2 = 0 then (mob (g_X10_greySeen F 20 x1 (-1) σ3) (fun r4 σ5 => some (r4, σ5))) else (if mw x2 = 1 then (mob (g_X10_greySeen F 20 x1 1 σ3) (fun r6 σ7 => some (r6, σ7))) else (if mw x2 = 2 then (mob (g_X10_greySeen F 20 x1 0 σ3) (fun r8 σ9 => some (r8, σ9))) else (some ((-1), σ3))))) else (some ((-1), σ3))) else none
set_option maxRecDepth 100000 in
set_option maxHeartbeats 4000000 in
theorem c_X11_sees (l : Launch) (D : va_G) (cy : Nat → ClassId) (ad : Nat → Nat) (bs : Nat) (F : Nat)  (x1 x2 : Int) (σ : mMem) (r : Int) (σ' : mMem)  (hf : g_X11_sees F x1 x2 σ = some (r, σ')) : mCi l D cy ad bs yX11_sees cX11_sees 3 (some .int) 4 [.ref (ad 0), .int (mI x1), .int (mI x2)] σ r σ' := by
  refine mCi.of (lv := [(0, .ref (ad 0)), (1, .int (mI x1)), (2, .int (mI x2))]) km_X11_sees.2.2.2.2.2 (Nat.le_of_ble_eq_true rfl) rfl (fun p e s m args below meth c H locs ls X hw hl => ?_)
  obtain ⟨⟨hx, hb, -, -, -⟩, -⟩ := id X
  unfold g_X11_sees at hf
  refine lv_aload_n hx hb dX11_sees_0 rfl (lv_at hl 0 rfl) ?_
  refine r_getp X hw sh_0 fd_11_8 rfl lf_X11_19 dX11_sees_1 hf (fun hg1 hf => ?_)
  refine lv_iload_n hx hb dX11_sees_4 rfl (lv_at hl 1 rfl) ?_
  refine r_cvi (rest := []) [.int (mI x1)] X hw (fun ra σa h => c_X5_hasBox l D cy ad bs F (σ 0 8).toNat x1 σ ra σa (mPlan_z hg1) h) (mPlan_z hg1).1 rfl (by decide) rfl km_X5_hasBox kv_X5_hasBox lm_X11_151 dX11_sees_5 hl.1 rfl rfl (Nat.le_of_ble_eq_true rfl) ⟨by decide, by decide⟩ ⟨Nat.zero_le _, Nat.zero_le _⟩ hf (fun r2 σ3 _ hf H locs hw => ?_)
  refine r_if_ne (tgt := 13) X dX11_sees_8 (by decide) hf (fun hc hf => ?_) (fun hc hf => ?_)
  · refine lv_iload_n hx hb dX11_sees_13 rfl (lv_at hl 2 rfl) ?_
    refine r_case hf (fun hc0 hf => ?_) (fun hc0 hf => ?_)
    · refine r_tin (k := 0) (off := 26) (tgt := 40) X dX11_sees_14 hc0 (by decide) (by decide) rfl (by decide) ?_
      refine lv_aload_n hx hb dX11_sees_40 rfl (lv_at hl 0 rfl) ?_
      refine r_getr 20 X hw sh_0 fd_11_2 rfl rfl lf_X11_40 dX11_sees_41 ?_
      refine lv_iload_n hx hb dX11_sees_44 rfl (lv_at hl 1 rfl) ?_
      refine lv_iconst (v := mI (-1)) hx hb dX11_sees_45 rfl ?_
      refine r_cvi (rest := []) [.int (mI x1), .int (mI (-1))] X hw (fun ra σa h => c_X10_greySeen l D cy ad bs F 20 x1 (-1) σ3 ra σa sh_w20 h) sh_20 rfl (by decide) rfl km_X10_greySeen kv_X10_greySeen lm_X11_177 dX11_sees_46 hl.1 rfl rfl (Nat.le_of_ble_eq_true rfl) ⟨by decide, by decide⟩ ⟨Nat.zero_le _, Nat.zero_le _⟩ hf (fun r4 σ5 _ hf H locs hw => ?_)
      exact r_iret X hw dX11_sees_49 hf
    refine r_case hf (fun hc1 hf => ?_) (fun hc1 hf => ?_)
    · refine r_tin (k := 1) (off := 36) (tgt := 50) X dX11_sees_14 hc1 (by decide) (by decide) rfl (by decide) ?_
      refine lv_aload_n hx hb dX11_sees_50 rfl (lv_at hl 0 rfl) ?_
      refine r_getr 20 X hw sh_0 fd_11_2 rfl rfl lf_X11_40 dX11_sees_51 ?_
      refine lv_iload_n hx hb dX11_sees_54 rfl (lv_at hl 1 rfl) ?_
      refine lv_iconst (v := mI 1) hx hb dX11_sees_55 rfl ?_
      refine r_cvi (rest := []) [.int (mI x1), .int (mI 1)] X hw (fun ra σa h => c_X10_greySeen l D cy ad bs F 20 x1 1 σ3 ra σa sh_w20 h) sh_20 rfl (by decide) rfl km_X10_greySeen kv_X10_greySeen lm_X11_177 dX11_sees_56 hl.1 rfl rfl (Nat.le_of_ble_eq_true rfl) ⟨by decide, by decide⟩ ⟨Nat.zero_le _, Nat.zero_le _⟩ hf (fun r6 σ7 _ hf H locs hw => ?_)
      exact r_iret X hw dX11_sees_59 hf
    refine r_case hf (fun hc2 hf => ?_) (fun hc2 hf => ?_)
    · refine r_tin (k := 2) (off := 46) (tgt := 60) X dX11_sees_14 hc2 (by decide) (by decide) rfl (by decide) ?_
      refine lv_aload_n hx hb dX11_sees_60 rfl (lv_at hl 0 rfl) ?_
      refine r_getr 20 X hw sh_0 fd_11_2 rfl rfl lf_X11_40 dX11_sees_61 ?_
      refine lv_iload_n hx hb dX11_sees_64 rfl (lv_at hl 1 rfl) ?_
      refine lv_iconst (v := mI 0) hx hb dX11_sees_65 rfl ?_
      refine r_cvi (rest := []) [.int (mI x1), .int (mI 0)] X hw (fun ra σa h => c_X10_greySeen l D cy ad bs F 20 x1 0 σ3 ra σa sh_w20 h) sh_20 rfl (by decide) rfl km_X10_greySeen kv_X10_greySeen lm_X11_177 dX11_sees_66 hl.1 rfl rfl (Nat.le_of_ble_eq_true rfl) ⟨by decide, by decide⟩ ⟨Nat.zero_le _, Nat.zero_le _⟩ hf (fun r8 σ9 _ hf H locs hw => ?_)
      exact r_iret X hw dX11_sees_69 hf
    refine r_tout (tgt := 70) X dX11_sees_14 (by omega) (by decide) ?_
    refine lv_iconst (v := mI (-1)) hx hb dX11_sees_70 rfl ?_
    exact r_iret X hw dX11_sees_71 hf
  · refine lv_iconst (v := mI (-1)) hx hb dX11_sees_11 rfl ?_
    exact r_iret X hw dX11_sees_12 hf
def g_X11_later_b34 (F : Nat)  (σ : mMem) : mRs := some ((-1), σ)
set_option maxRecDepth 100000 in
set_option maxHeartbeats 4000000 in
theorem w_X11_later_b34 {p : Program} {l : Launch} {e : Env} {s : State} {m : MethodId} {args : Array Value} {below : List Frame} {meth : Method} {c : Code} {D : va_G} {cy : Nat → ClassId} {ad : Nat → Nat} {bs : Nat} {F : Nat}  (X : mCx p m c cX11_later 4 s args RX11 meth D cy (some .int))  {r : Int} {σ' : mMem}    {σ : mMem} {H : Heap} {locs : List Loc} {ls : Array Slot} (hw : mWd D cy ad bs true mN σ s.heap H locs) (hl : lv_has ls 4 [(0, .ref (ad 0))]) (hf : g_X11_later_b34 F  σ = some (r, σ')) : mGi p l e 7 s m args below meth c D cy ad bs r σ' H locs (F0 m 34 ls []) := by
  obtain ⟨⟨hx, hb, -, -, -⟩, -⟩ := id X
  unfold g_X11_later_b34 at hf
  refine lv_iconst (v := mI (-1)) hx hb dX11_later_34 rfl ?_
  exact r_iret X hw dX11_later_35 hf
def g_X11_later (F : Nat) (x1 x2 x3 : Int) (σ : mMem) : mRs := if σ 0 8 = 3 ∨ σ 0 8 = 8 then mob (g_X5_hasBox F (σ 0 8).toNat x1 σ) (fun r2 σ3 => if mw r2 = 0 then (g_X11_later_b34 F σ3) else (mob (g_X10_mayPass F 20 x2 0 80 σ3) (fun r4 σ5 => if mw r4 = 0 then (g_X11_later_b34 F σ5) else (if mw x3 < 0 then (g_X11_later_b34 F σ5) else (if mw x3 ≤ mw 4 then (mob (g_X0_stateBehind F 20 x1 x2 x3 σ5) (fun r6 σ7 => some (r6, σ7))) else (g_X11_later_b34 F σ5)))))) else none
set_option maxRecDepth 100000 in
set_option maxHeartbeats 4000000 in
theorem c_X11_later (l : Launch) (D : va_G) (cy : Nat → ClassId) (ad : Nat → Nat) (bs : Nat) (F : Nat)  (x1 x2 x3 : Int) (σ : mMem) (r : Int) (σ' : mMem)  (hf : g_X11_later F x1 x2 x3 σ = some (r, σ')) : mCi l D cy ad bs yX11_later cX11_later 4 (some .int) 7 [.ref (ad 0), .int (mI x1), .int (mI x2), .int (mI x3)] σ r σ' := by
  refine mCi.of (lv := [(0, .ref (ad 0)), (1, .int (mI x1)), (2, .int (mI x2)), (3, .int (mI x3))]) km_X11_later.2.2.2.2.2 (Nat.le_of_ble_eq_true rfl) rfl (fun p e s m args below meth c H locs ls X hw hl => ?_)
  obtain ⟨⟨hx, hb, -, -, -⟩, -⟩ := id X
  unfold g_X11_later at hf
  refine lv_aload_n hx hb dX11_later_0 rfl (lv_at hl 0 rfl) ?_
  refine r_getp X hw sh_0 fd_11_8 rfl lf_X11_19 dX11_later_1 hf (fun hg1 hf => ?_)
  refine lv_iload_n hx hb dX11_later_4 rfl (lv_at hl 1 rfl) ?_
  refine r_cvi (rest := []) [.int (mI x1)] X hw (fun ra σa h => c_X5_hasBox l D cy ad bs F (σ 0 8).toNat x1 σ ra σa (mPlan_z hg1) h) (mPlan_z hg1).1 rfl (by decide) rfl km_X5_hasBox kv_X5_hasBox lm_X11_151 dX11_later_5 hl.1 rfl rfl (Nat.le_of_ble_eq_true rfl) ⟨by decide, by decide⟩ ⟨Nat.zero_le _, Nat.zero_le _⟩ hf (fun r2 σ3 _ hf H locs hw => ?_)
  refine r_if_eq (tgt := 34) X dX11_later_8 (by decide) hf (fun hc hf => ?_) (fun hc hf => ?_)
  · exact w_X11_later_b34 X hw (lv_sub hl [0] rfl) hf
  · refine lv_aload_n hx hb dX11_later_11 rfl (lv_at hl 0 rfl) ?_
    refine r_getr 20 X hw sh_0 fd_11_2 rfl rfl lf_X11_40 dX11_later_12 ?_
    refine lv_iload_n hx hb dX11_later_15 rfl (lv_at hl 2 rfl) ?_
    refine lv_iconst (v := mI 0) hx hb dX11_later_16 rfl ?_
    refine lv_bipush (v := mI 80) hx hb dX11_later_17 (by decide) ?_
    refine r_cvi (rest := []) [.int (mI x2), .int (mI 0), .int (mI 80)] X hw (fun ra σa h => c_X10_mayPass l D cy ad bs F 20 x2 0 80 σ3 ra σa sh_w20 h) sh_20 rfl (by decide) rfl km_X10_mayPass kv_X10_mayPass lm_X11_180 dX11_later_19 hl.1 rfl rfl (Nat.le_of_ble_eq_true rfl) ⟨by decide, by decide⟩ ⟨Nat.zero_le _, Nat.zero_le _⟩ hf (fun r4 σ5 _ hf H locs hw => ?_)
    refine r_if_eq (tgt := 34) X dX11_later_22 (by decide) hf (fun hc hf => ?_) (fun hc hf => ?_)
    · exact w_X11_later_b34 X hw (lv_sub hl [0] rfl) hf
    · refine lv_iload_n hx hb dX11_later_25 rfl (lv_at hl 3 rfl) ?_
      refine r_if_lt (tgt := 34) X dX11_later_26 (by decide) hf (fun hc hf => ?_) (fun hc hf => ?_)
      · exact w_X11_later_b34 X hw (lv_sub hl [0] rfl) hf
      · refine lv_iload_n hx hb dX11_later_29 rfl (lv_at hl 3 rfl) ?_
        refine lv_iconst (v := mI 4) hx hb dX11_later_30 rfl ?_
        refine r_icmp_le (tgt := 36) X dX11_later_31 (by decide) hf (fun hc hf => ?_) (fun hc hf => ?_)
        · refine lv_aload_n hx hb dX11_later_36 rfl (lv_at hl 0 rfl) ?_
          refine r_getr 26 X hw sh_0 fd_11_3 rfl rfl lf_X11_47 dX11_later_37 ?_
          refine lv_aload_n hx hb dX11_later_40 rfl (lv_at hl 0 rfl) ?_
          refine r_getr 20 X hw sh_0 fd_11_2 rfl rfl lf_X11_40 dX11_later_41 ?_
          refine lv_iload_n hx hb dX11_later_44 rfl (lv_at hl 1 rfl) ?_
          refine lv_iload_n hx hb dX11_later_45 rfl (lv_at hl 2 rfl) ?_
          refine lv_iload_n hx hb dX11_later_46 rfl (lv_at hl 3 rfl) ?_
          refine r_cvi (rest := []) [.ref (ad 20), .int (mI x1), .int (mI x2), .int (mI x3)] X hw (fun ra σa h => c_X0_stateBehind l D cy ad bs F 20 x1 x2 x3 σ5 ra σa sh_w20 h) sh_26 rfl (by decide) rfl km_X0_stateBehind kv_X0_stateBehind lm_X11_184 dX11_later_47 hl.1 rfl rfl (Nat.le_of_ble_eq_true rfl) ⟨by decide, by decide⟩ ⟨Nat.zero_le _, Nat.zero_le _⟩ hf (fun r6 σ7 _ hf H locs hw => ?_)
          exact r_iret X hw dX11_later_50 hf
        · exact w_X11_later_b34 X hw (lv_sub hl [0] rfl) hf
def g_X11_round_b27 (F : Nat)  (t0 : Int) (σ : mMem) : mRs := some (t0, σ)
set_option maxRecDepth 100000 in
set_option maxHeartbeats 4000000 in
theorem w_X11_round_b27 {p : Program} {l : Launch} {e : Env} {s : State} {m : MethodId} {args : Array Value} {below : List Frame} {meth : Method} {c : Code} {D : va_G} {cy : Nat → ClassId} {ad : Nat → Nat} {bs : Nat} {F : Nat}  (X : mCx p m c cX11_round 2 s args RX11 meth D cy (some .int))  {r : Int} {σ' : mMem}   {t0 : Int} {σ : mMem} {H : Heap} {locs : List Loc} {ls : Array Slot} (hw : mWd D cy ad bs true mN σ s.heap H locs) (hl : lv_has ls 2 [(0, .ref (ad 0))]) (hf : g_X11_round_b27 F t0 σ = some (r, σ')) : mGi p l e 7 s m args below meth c D cy ad bs r σ' H locs (F0 m 27 ls [.int (mI t0)]) := by
  obtain ⟨⟨hx, hb, -, -, -⟩, -⟩ := id X
  unfold g_X11_round_b27 at hf
  exact r_iret X hw dX11_round_27 hf
def g_X11_round (F : Nat) (x1 : Int) (σ : mMem) : mRs := if σ 0 8 = 3 ∨ σ 0 8 = 8 then mob (g_X5_hasBox F (σ 0 8).toNat x1 σ) (fun r2 σ3 => if mw r2 = 0 then (g_X11_round_b27 F (-1) σ3) else (mob (g_X0_stepsRound F 20 x1 σ3) (fun r4 σ5 => g_X11_round_b27 F r4 σ5))) else none
set_option maxRecDepth 100000 in
set_option maxHeartbeats 4000000 in
theorem c_X11_round (l : Launch) (D : va_G) (cy : Nat → ClassId) (ad : Nat → Nat) (bs : Nat) (F : Nat)  (x1 : Int) (σ : mMem) (r : Int) (σ' : mMem)  (hf : g_X11_round F x1 σ = some (r, σ')) : mCi l D cy ad bs yX11_round cX11_round 2 (some .int) 7 [.ref (ad 0), .int (mI x1)] σ r σ' := by
  refine mCi.of (lv := [(0, .ref (ad 0)), (1, .int (mI x1))]) km_X11_round.2.2.2.2.2 (Nat.le_of_ble_eq_true rfl) rfl (fun p e s m args below meth c H locs ls X hw hl => ?_)
  obtain ⟨⟨hx, hb, -, -, -⟩, -⟩ := id X
  unfold g_X11_round at hf
  refine lv_aload_n hx hb dX11_round_0 rfl (lv_at hl 0 rfl) ?_
  refine r_getp X hw sh_0 fd_11_8 rfl lf_X11_19 dX11_round_1 hf (fun hg1 hf => ?_)
  refine lv_iload_n hx hb dX11_round_4 rfl (lv_at hl 1 rfl) ?_
  refine r_cvi (rest := []) [.int (mI x1)] X hw (fun ra σa h => c_X5_hasBox l D cy ad bs F (σ 0 8).toNat x1 σ ra σa (mPlan_z hg1) h) (mPlan_z hg1).1 rfl (by decide) rfl km_X5_hasBox kv_X5_hasBox lm_X11_151 dX11_round_5 hl.1 rfl rfl (Nat.le_of_ble_eq_true rfl) ⟨by decide, by decide⟩ ⟨Nat.zero_le _, Nat.zero_le _⟩ hf (fun r2 σ3 _ hf H locs hw => ?_)
  refine r_if_eq (tgt := 26) X dX11_round_8 (by decide) hf (fun hc hf => ?_) (fun hc hf => ?_)
  · refine lv_iconst (v := mI (-1)) hx hb dX11_round_26 rfl ?_
    exact w_X11_round_b27 X hw (lv_sub hl [0] rfl) hf
  · refine lv_aload_n hx hb dX11_round_11 rfl (lv_at hl 0 rfl) ?_
    refine r_getr 26 X hw sh_0 fd_11_3 rfl rfl lf_X11_47 dX11_round_12 ?_
    refine lv_aload_n hx hb dX11_round_15 rfl (lv_at hl 0 rfl) ?_
    refine r_getr 20 X hw sh_0 fd_11_2 rfl rfl lf_X11_40 dX11_round_16 ?_
    refine lv_iload_n hx hb dX11_round_19 rfl (lv_at hl 1 rfl) ?_
    refine r_cvi (rest := []) [.ref (ad 20), .int (mI x1)] X hw (fun ra σa h => c_X0_stepsRound l D cy ad bs F 20 x1 σ3 ra σa sh_w20 h) sh_26 rfl (by decide) rfl km_X0_stepsRound kv_X0_stepsRound lm_X11_188 dX11_round_20 hl.1 rfl rfl (Nat.le_of_ble_eq_true rfl) ⟨by decide, by decide⟩ ⟨Nat.zero_le _, Nat.zero_le _⟩ hf (fun r4 σ5 _ hf H locs hw => ?_)
    refine lv_goto (tgt := 27) hx hb dX11_round_23 (by decide) ?_
    exact w_X11_round_b27 X hw (lv_sub hl [0] rfl) hf
def g_X11_loses_b22 (F : Nat)  (σ : mMem) : mRs := some ((-1), σ)
set_option maxRecDepth 100000 in
set_option maxHeartbeats 4000000 in
theorem w_X11_loses_b22 {p : Program} {l : Launch} {e : Env} {s : State} {m : MethodId} {args : Array Value} {below : List Frame} {meth : Method} {c : Code} {D : va_G} {cy : Nat → ClassId} {ad : Nat → Nat} {bs : Nat} {F : Nat}  (X : mCx p m c cX11_loses 3 s args RX11 meth D cy (some .int))  {r : Int} {σ' : mMem}    {σ : mMem} {H : Heap} {locs : List Loc} {ls : Array Slot} (hw : mWd D cy ad bs true mN σ s.heap H locs) (hl : lv_has ls 3 [(0, .ref (ad 0))]) (hf : g_X11_loses_b22 F  σ = some (r, σ')) : mGi p l e 7 s m args below meth c D cy ad bs r σ' H locs (F0 m 22 ls []) := by
  obtain ⟨⟨hx, hb, -, -, -⟩, -⟩ := id X
  unfold g_X11_loses_b22 at hf
  refine lv_iconst (v := mI (-1)) hx hb dX11_loses_22 rfl ?_
  exact r_iret X hw dX11_loses_23 hf
def g_X11_loses (F : Nat) (x1 x2 : Int) (σ : mMem) : mRs := if σ 0 8 = 3 ∨ σ 0 8 = 8 then mob (g_X5_hasBox F (σ 0 8).toNat x1 σ) (fun r2 σ3 => if mw r2 = 0 then (g_X11_loses_b22 F σ3) else (if mw x2 < mw 1 then (g_X11_loses_b22 F σ3) else (if mw x2 ≤ mw 99 then (mob (g_X0_stepsToLoss F 20 x1 x2 σ3) (fun r4 σ5 => some (r4, σ5))) else (g_X11_loses_b22 F σ3)))) else none
set_option maxRecDepth 100000 in
set_option maxHeartbeats 4000000 in
theorem c_X11_loses (l : Launch) (D : va_G) (cy : Nat → ClassId) (ad : Nat → Nat) (bs : Nat) (F : Nat)  (x1 x2 : Int) (σ : mMem) (r : Int) (σ' : mMem)  (hf : g_X11_loses F x1 x2 σ = some (r, σ')) : mCi l D cy ad bs yX11_loses cX11_loses 3 (some .int) 7 [.ref (ad 0), .int (mI x1), .int (mI x2)] σ r σ' := by
  refine mCi.of (lv := [(0, .ref (ad 0)), (1, .int (mI x1)), (2, .int (mI x2))]) km_X11_loses.2.2.2.2.2 (Nat.le_of_ble_eq_true rfl) rfl (fun p e s m args below meth c H locs ls X hw hl => ?_)
  obtain ⟨⟨hx, hb, -, -, -⟩, -⟩ := id X
  unfold g_X11_loses at hf
  refine lv_aload_n hx hb dX11_loses_0 rfl (lv_at hl 0 rfl) ?_
  refine r_getp X hw sh_0 fd_11_8 rfl lf_X11_19 dX11_loses_1 hf (fun hg1 hf => ?_)
  refine lv_iload_n hx hb dX11_loses_4 rfl (lv_at hl 1 rfl) ?_
  refine r_cvi (rest := []) [.int (mI x1)] X hw (fun ra σa h => c_X5_hasBox l D cy ad bs F (σ 0 8).toNat x1 σ ra σa (mPlan_z hg1) h) (mPlan_z hg1).1 rfl (by decide) rfl km_X5_hasBox kv_X5_hasBox lm_X11_151 dX11_loses_5 hl.1 rfl rfl (Nat.le_of_ble_eq_true rfl) ⟨by decide, by decide⟩ ⟨Nat.zero_le _, Nat.zero_le _⟩ hf (fun r2 σ3 _ hf H locs hw => ?_)
  refine r_if_eq (tgt := 22) X dX11_loses_8 (by decide) hf (fun hc hf => ?_) (fun hc hf => ?_)
  · exact w_X11_loses_b22 X hw (lv_sub hl [0] rfl) hf
  · refine lv_iload_n hx hb dX11_loses_11 rfl (lv_at hl 2 rfl) ?_
    refine lv_iconst (v := mI 1) hx hb dX11_loses_12 rfl ?_
    refine r_icmp_lt (tgt := 22) X dX11_loses_13 (by decide) hf (fun hc hf => ?_) (fun hc hf => ?_)
    · exact w_X11_loses_b22 X hw (lv_sub hl [0] rfl) hf
    · refine lv_iload_n hx hb dX11_loses_16 rfl (lv_at hl 2 rfl) ?_
      refine lv_bipush (v := mI 99) hx hb dX11_loses_17 (by decide) ?_
      refine r_icmp_le (tgt := 24) X dX11_loses_19 (by decide) hf (fun hc hf => ?_) (fun hc hf => ?_)
      · refine lv_aload_n hx hb dX11_loses_24 rfl (lv_at hl 0 rfl) ?_
        refine r_getr 26 X hw sh_0 fd_11_3 rfl rfl lf_X11_47 dX11_loses_25 ?_
        refine lv_aload_n hx hb dX11_loses_28 rfl (lv_at hl 0 rfl) ?_
        refine r_getr 20 X hw sh_0 fd_11_2 rfl rfl lf_X11_40 dX11_loses_29 ?_
        refine lv_iload_n hx hb dX11_loses_32 rfl (lv_at hl 1 rfl) ?_
        refine lv_iload_n hx hb dX11_loses_33 rfl (lv_at hl 2 rfl) ?_
        refine r_cvi (rest := []) [.ref (ad 20), .int (mI x1), .int (mI x2)] X hw (fun ra σa h => c_X0_stepsToLoss l D cy ad bs F 20 x1 x2 σ3 ra σa sh_w20 h) sh_26 rfl (by decide) rfl km_X0_stepsToLoss kv_X0_stepsToLoss lm_X11_192 dX11_loses_34 hl.1 rfl rfl (Nat.le_of_ble_eq_true rfl) ⟨by decide, by decide⟩ ⟨Nat.zero_le _, Nat.zero_le _⟩ hf (fun r4 σ5 _ hf H locs hw => ?_)
        exact r_iret X hw dX11_loses_37 hf
      · exact w_X11_loses_b22 X hw (lv_sub hl [0] rfl) hf
def g_X11_jam (F : Nat) (σ : mMem) : mRs := mob (g_X0_firstJam F 20 σ) (fun r1 σ2 => some (r1, σ2))
set_option maxRecDepth 100000 in
set_option maxHeartbeats 4000000 in
theorem c_X11_jam (l : Launch) (D : va_G) (cy : Nat → ClassId) (ad : Nat → Nat) (bs : Nat) (F : Nat)   (σ : mMem) (r : Int) (σ' : mMem)  (hf : g_X11_jam F  σ = some (r, σ')) : mCi l D cy ad bs yX11_jam cX11_jam 1 (some .int) 7 [.ref (ad 0)] σ r σ' := by
  refine mCi.of (lv := [(0, .ref (ad 0))]) km_X11_jam.2.2.2.2.2 (Nat.le_of_ble_eq_true rfl) rfl (fun p e s m args below meth c H locs ls X hw hl => ?_)
  obtain ⟨⟨hx, hb, -, -, -⟩, -⟩ := id X
  unfold g_X11_jam at hf
  refine lv_aload_n hx hb dX11_jam_0 rfl (lv_at hl 0 rfl) ?_
  refine r_getr 26 X hw sh_0 fd_11_3 rfl rfl lf_X11_47 dX11_jam_1 ?_
  refine lv_aload_n hx hb dX11_jam_4 rfl (lv_at hl 0 rfl) ?_
  refine r_getr 20 X hw sh_0 fd_11_2 rfl rfl lf_X11_40 dX11_jam_5 ?_
  refine r_cvi (rest := []) [.ref (ad 20)] X hw (fun ra σa h => c_X0_firstJam l D cy ad bs F 20 σ ra σa sh_w20 h) sh_26 rfl (by decide) rfl km_X0_firstJam kv_X0_firstJam lm_X11_196 dX11_jam_8 hl.1 rfl rfl (Nat.le_of_ble_eq_true rfl) ⟨by decide, by decide⟩ ⟨Nat.zero_le _, Nat.zero_le _⟩ hf (fun r1 σ2 _ hf H locs hw => ?_)
  exact r_iret X hw dX11_jam_11 hf
def g_X11_gap_b27 (F : Nat)  (σ : mMem) : mRs := some ((-1), σ)
set_option maxRecDepth 100000 in
set_option maxHeartbeats 4000000 in
theorem w_X11_gap_b27 {p : Program} {l : Launch} {e : Env} {s : State} {m : MethodId} {args : Array Value} {below : List Frame} {meth : Method} {c : Code} {D : va_G} {cy : Nat → ClassId} {ad : Nat → Nat} {bs : Nat} {F : Nat}  (X : mCx p m c cX11_gap 4 s args RX11 meth D cy (some .int))  {r : Int} {σ' : mMem}    {σ : mMem} {H : Heap} {locs : List Loc} {ls : Array Slot} (hw : mWd D cy ad bs true mN σ s.heap H locs) (hl : lv_has ls 4 [(0, .ref (ad 0))]) (hf : g_X11_gap_b27 F  σ = some (r, σ')) : mGi p l e 7 s m args below meth c D cy ad bs r σ' H locs (F0 m 27 ls []) := by
  obtain ⟨⟨hx, hb, -, -, -⟩, -⟩ := id X
  unfold g_X11_gap_b27 at hf
  refine lv_iconst (v := mI (-1)) hx hb dX11_gap_27 rfl ?_
  exact r_iret X hw dX11_gap_28 hf
def g_X11_gap_b61 (F : Nat)  (t0 : Int) (σ : mMem) : mRs := some (t0, σ)
set_option maxRecDepth 100000 in
set_option maxHeartbeats 4000000 in
theorem w_X11_gap_b61 {p : Program} {l : Launch} {e : Env} {s : State} {m : MethodId} {args : Array Value} {below : List Frame} {meth : Method} {c : Code} {D : va_G} {cy : Nat → ClassId} {ad : Nat → Nat} {bs : Nat} {F : Nat}  (X : mCx p m c cX11_gap 4 s args RX11 meth D cy (some .int))  {r : Int} {σ' : mMem}   {t0 : Int} {σ : mMem} {H : Heap} {locs : List Loc} {ls : Array Slot} (hw : mWd D cy ad bs true mN σ s.heap H locs) (hl : lv_has ls 4 [(0, .ref (ad 0))]) (hf : g_X11_gap_b61 F t0 σ = some (r, σ')) : mGi p l e 7 s m args below meth c D cy ad bs r σ' H locs (F0 m 61 ls [.int (mI t0)]) := by
  obtain ⟨⟨hx, hb, -, -, -⟩, -⟩ := id X
  unfold g_X11_gap_b61 at hf
  exact r_iret X hw dX11_gap_61 hf
def g_X11_gap (F : Nat) (x1 x2 x3 : Int) (σ : mMem) : mRs := if σ 0 8 = 3 ∨ σ 0 8 = 8 then mob (g_X5_hasBox F (σ 0 8).toNat x1 σ) (fun r2 σ3 => if mw r2 = 0 then (g_X11_gap_b27 F σ3) else (if σ3 0 8 = 3 ∨ σ3 0 8 = 8 then mob (g_X5_hasBox F (σ3 0 8).toNat x2 σ3) (fun r5 σ6 => if mw r5 = 0 then (g_X11_gap_b27 F σ6) else (if ¬ mw x1 = mw x2 then (mob (g_X10_mayPass F 20 x3 0 80 σ6) (fun r7 σ8 => if mw r7 = 0 then (g_X11_gap_b61 F (-1) σ8) else (mob (g_X0_nearest F 20 x1 x2 x3 σ8) (fun r9 σ10 => g_X11_gap_b61 F r9 σ10)))) else (g_X11_gap_b27 F σ6))) else none)) else none
set_option maxRecDepth 100000 in
set_option maxHeartbeats 4000000 in
theorem c_X11_gap (l : Launch) (D : va_G) (cy : Nat → ClassId) (ad : Nat → Nat) (bs : Nat) (F : Nat)  (x1 x2 x3 : Int) (σ : mMem) (r : Int) (σ' : mMem)  (hf : g_X11_gap F x1 x2 x3 σ = some (r, σ')) : mCi l D cy ad bs yX11_gap cX11_gap 4 (some .int) 7 [.ref (ad 0), .int (mI x1), .int (mI x2), .int (mI x3)] σ r σ' := by
  refine mCi.of (lv := [(0, .ref (ad 0)), (1, .int (mI x1)), (2, .int (mI x2)), (3, .int (mI x3))]) km_X11_gap.2.2.2.2.2 (Nat.le_of_ble_eq_true rfl) rfl (fun p e s m args below meth c H locs ls X hw hl => ?_)
  obtain ⟨⟨hx, hb, -, -, -⟩, -⟩ := id X
  unfold g_X11_gap at hf
  refine lv_aload_n hx hb dX11_gap_0 rfl (lv_at hl 0 rfl) ?_
  refine r_getp X hw sh_0 fd_11_8 rfl lf_X11_19 dX11_gap_1 hf (fun hg1 hf => ?_)
  refine lv_iload_n hx hb dX11_gap_4 rfl (lv_at hl 1 rfl) ?_
  refine r_cvi (rest := []) [.int (mI x1)] X hw (fun ra σa h => c_X5_hasBox l D cy ad bs F (σ 0 8).toNat x1 σ ra σa (mPlan_z hg1) h) (mPlan_z hg1).1 rfl (by decide) rfl km_X5_hasBox kv_X5_hasBox lm_X11_151 dX11_gap_5 hl.1 rfl rfl (Nat.le_of_ble_eq_true rfl) ⟨by decide, by decide⟩ ⟨Nat.zero_le _, Nat.zero_le _⟩ hf (fun r2 σ3 _ hf H locs hw => ?_)
  refine r_if_eq (tgt := 27) X dX11_gap_8 (by decide) hf (fun hc hf => ?_) (fun hc hf => ?_)
  · exact w_X11_gap_b27 X hw (lv_sub hl [0] rfl) hf
  · refine lv_aload_n hx hb dX11_gap_11 rfl (lv_at hl 0 rfl) ?_
    refine r_getp X hw sh_0 fd_11_8 rfl lf_X11_19 dX11_gap_12 hf (fun hg4 hf => ?_)
    refine lv_iload_n hx hb dX11_gap_15 rfl (lv_at hl 2 rfl) ?_
    refine r_cvi (rest := []) [.int (mI x2)] X hw (fun ra σa h => c_X5_hasBox l D cy ad bs F (σ3 0 8).toNat x2 σ3 ra σa (mPlan_z hg4) h) (mPlan_z hg4).1 rfl (by decide) rfl km_X5_hasBox kv_X5_hasBox lm_X11_151 dX11_gap_16 hl.1 rfl rfl (Nat.le_of_ble_eq_true rfl) ⟨by decide, by decide⟩ ⟨Nat.zero_le _, Nat.zero_le _⟩ hf (fun r5 σ6 _ hf H locs hw => ?_)
    refine r_if_eq (tgt := 27) X dX11_gap_19 (by decide) hf (fun hc hf => ?_) (fun hc hf => ?_)
    · exact w_X11_gap_b27 X hw (lv_sub hl [0] rfl) hf
    · refine lv_iload_n hx hb dX11_gap_22 rfl (lv_at hl 1 rfl) ?_
      refine lv_iload_n hx hb dX11_gap_23 rfl (lv_at hl 2 rfl) ?_
      refine r_icmp_ne (tgt := 29) X dX11_gap_24 (by decide) hf (fun hc hf => ?_) (fun hc hf => ?_)
      · refine lv_aload_n hx hb dX11_gap_29 rfl (lv_at hl 0 rfl) ?_
        refine r_getr 20 X hw sh_0 fd_11_2 rfl rfl lf_X11_40 dX11_gap_30 ?_
        refine lv_iload_n hx hb dX11_gap_33 rfl (lv_at hl 3 rfl) ?_
        refine lv_iconst (v := mI 0) hx hb dX11_gap_34 rfl ?_
        refine lv_bipush (v := mI 80) hx hb dX11_gap_35 (by decide) ?_
        refine r_cvi (rest := []) [.int (mI x3), .int (mI 0), .int (mI 80)] X hw (fun ra σa h => c_X10_mayPass l D cy ad bs F 20 x3 0 80 σ6 ra σa sh_w20 h) sh_20 rfl (by decide) rfl km_X10_mayPass kv_X10_mayPass lm_X11_180 dX11_gap_37 hl.1 rfl rfl (Nat.le_of_ble_eq_true rfl) ⟨by decide, by decide⟩ ⟨Nat.zero_le _, Nat.zero_le _⟩ hf (fun r7 σ8 _ hf H locs hw => ?_)
        refine r_if_eq (tgt := 60) X dX11_gap_40 (by decide) hf (fun hc hf => ?_) (fun hc hf => ?_)
        · refine lv_iconst (v := mI (-1)) hx hb dX11_gap_60 rfl ?_
          exact w_X11_gap_b61 X hw (lv_sub hl [0] rfl) hf
        · refine lv_aload_n hx hb dX11_gap_43 rfl (lv_at hl 0 rfl) ?_
          refine r_getr 26 X hw sh_0 fd_11_3 rfl rfl lf_X11_47 dX11_gap_44 ?_
          refine lv_aload_n hx hb dX11_gap_47 rfl (lv_at hl 0 rfl) ?_
          refine r_getr 20 X hw sh_0 fd_11_2 rfl rfl lf_X11_40 dX11_gap_48 ?_
          refine lv_iload_n hx hb dX11_gap_51 rfl (lv_at hl 1 rfl) ?_
          refine lv_iload_n hx hb dX11_gap_52 rfl (lv_at hl 2 rfl) ?_
          refine lv_iload_n hx hb dX11_gap_53 rfl (lv_at hl 3 rfl) ?_
          refine r_cvi (rest := []) [.ref (ad 20), .int (mI x1), .int (mI x2), .int (mI x3)] X hw (fun ra σa h => c_X0_nearest l D cy ad bs F 20 x1 x2 x3 σ8 ra σa sh_w20 h) sh_26 rfl (by decide) rfl km_X0_nearest kv_X0_nearest lm_X11_200 dX11_gap_54 hl.1 rfl rfl (Nat.le_of_ble_eq_true rfl) ⟨by decide, by decide⟩ ⟨Nat.zero_le _, Nat.zero_le _⟩ hf (fun r9 σ10 _ hf H locs hw => ?_)
          refine lv_goto (tgt := 61) hx hb dX11_gap_57 (by decide) ?_
          exact w_X11_gap_b61 X hw (lv_sub hl [0] rfl) hf
      · exact w_X11_gap_b27 X hw (lv_sub hl [0] rfl) hf
def g_X11_tuned_b34 (F : Nat)  (σ : mMem) : mRs := some ((-1), σ)
set_option maxRecDepth 100000 in
set_option maxHeartbeats 4000000 in
theorem w_X11_tuned_b34 {p : Program} {l : Launch} {e : Env} {s : State} {m : MethodId} {args : Array Value} {below : List Frame} {meth : Method} {c : Code} {D : va_G} {cy : Nat → ClassId} {ad : Nat → Nat} {bs : Nat} {F : Nat}  (X : mCx p m c cX11_tuned 4 s args RX11 meth D cy (some .int))  {r : Int} {σ' : mMem}    {σ : mMem} {H : Heap} {locs : List Loc} {ls : Array Slot} (hw : mWd D cy ad bs true mN σ s.heap H locs) (hl : lv_has ls 4 [(0, .ref (ad 0))]) (hf : g_X11_tuned_b34 F  σ = some (r, σ')) : mGi p l e 8 s m args below meth c D cy ad bs r σ' H locs (F0 m 34 ls []) := by
  obtain ⟨⟨hx, hb, -, -, -⟩, -⟩ := id X
  unfold g_X11_tuned_b34 at hf
  refine lv_iconst (v := mI (-1)) hx hb dX11_tuned_34 rfl ?_
  exact r_iret X hw dX11_tuned_35 hf
def g_X11_tuned (F : Nat) (x1 x2 x3 : Int) (σ : mMem) : mRs := if σ 0 8 = 3 ∨ σ 0 8 = 8 then mob (g_X5_hasBox F (σ 0 8).toNat x1 σ) (fun r2 σ3 => if mw r2 = 0 then (g_X11_tuned_b34 F σ3) else (mob (g_X10_mayPass F 20 x2 1 60 σ3) (fun r4 σ5 => if mw r4 = 0 then (g_X11_tuned_b34 F σ5) else (if mw x3 < 0 then (g_X11_tuned_b34 F σ5) else (if mw x3 ≤ mw 2 then (mob (g_X0_bestEyes F 20 x1 x2 x3 σ5) (fun r6 σ7 => some (r6, σ7))) else (g_X11_tuned_b34 F σ5)))))) else none
set_option maxRecDepth 100000 in
set_option maxHeartbeats 4000000 in
theorem c_X11_tuned (l : Launch) (D : va_G) (cy : Nat → ClassId) (ad : Nat → Nat) (bs : Nat) (F : Nat)  (x1 x2 x3 : Int) (σ : mMem) (r : Int) (σ' : mMem)  (hf : g_X11_tuned F x1 x2 x3 σ = some (r, σ')) : mCi l D cy ad bs yX11_tuned cX11_tuned 4 (some .int) 8 [.ref (ad 0), .int (mI x1), .int (mI x2), .int (mI x3)] σ r σ' := by
  refine mCi.of (lv := [(0, .ref (ad 0)), (1, .int (mI x1)), (2, .int (mI x2)), (3, .int (mI x3))]) km_X11_tuned.2.2.2.2.2 (Nat.le_of_ble_eq_true rfl) rfl (fun p e s m args below meth c H locs ls X hw hl => ?_)
  obtain ⟨⟨hx, hb, -, -, -⟩, -⟩ := id X
  unfold g_X11_tuned at hf
  refine lv_aload_n hx hb dX11_tuned_0 rfl (lv_at hl 0 rfl) ?_
  refine r_getp X hw sh_0 fd_11_8 rfl lf_X11_19 dX11_tuned_1 hf (fun hg1 hf => ?_)
  refine lv_iload_n hx hb dX11_tuned_4 rfl (lv_at hl 1 rfl) ?_
  refine r_cvi (rest := []) [.int (mI x1)] X hw (fun ra σa h => c_X5_hasBox l D cy ad bs F (σ 0 8).toNat x1 σ ra σa (mPlan_z hg1) h) (mPlan_z hg1).1 rfl (by decide) rfl km_X5_hasBox kv_X5_hasBox lm_X11_151 dX11_tuned_5 hl.1 rfl rfl (Nat.le_of_ble_eq_true rfl) ⟨by decide, by decide⟩ ⟨Nat.zero_le _, Nat.zero_le _⟩ hf (fun r2 σ3 _ hf H locs hw => ?_)
  refine r_if_eq (tgt := 34) X dX11_tuned_8 (by decide) hf (fun hc hf => ?_) (fun hc hf => ?_)
  · exact w_X11_tuned_b34 X hw (lv_sub hl [0] rfl) hf
  · refine lv_aload_n hx hb dX11_tuned_11 rfl (lv_at hl 0 rfl) ?_
    refine r_getr 20 X hw sh_0 fd_11_2 rfl rfl lf_X11_40 dX11_tuned_12 ?_
    refine lv_iload_n hx hb dX11_tuned_15 rfl (lv_at hl 2 rfl) ?_
    refine lv_iconst (v := mI 1) hx hb dX11_tuned_16 rfl ?_
    refine lv_bipush (v := mI 60) hx hb dX11_tuned_17 (by decide) ?_
    refine r_cvi (rest := []) [.int (mI x2), .int (mI 1), .int (mI 60)] X hw (fun ra σa h => c_X10_mayPass l D cy ad bs F 20 x2 1 60 σ3 ra σa sh_w20 h) sh_20 rfl (by decide) rfl km_X10_mayPass kv_X10_mayPass lm_X11_180 dX11_tuned_19 hl.1 rfl rfl (Nat.le_of_ble_eq_true rfl) ⟨by decide, by decide⟩ ⟨Nat.zero_le _, Nat.zero_le _⟩ hf (fun r4 σ5 _ hf H locs hw => ?_)
    refine r_if_eq (tgt := 34) X dX11_tuned_22 (by decide) hf (fun hc hf => ?_) (fun hc hf => ?_)
    · exact w_X11_tuned_b34 X hw (lv_sub hl [0] rfl) hf
    · refine lv_iload_n hx hb dX11_tuned_25 rfl (lv_at hl 3 rfl) ?_
      refine r_if_lt (tgt := 34) X dX11_tuned_26 (by decide) hf (fun hc hf => ?_) (fun hc hf => ?_)
      · exact w_X11_tuned_b34 X hw (lv_sub hl [0] rfl) hf
      · refine lv_iload_n hx hb dX11_tuned_29 rfl (lv_at hl 3 rfl) ?_
        refine lv_iconst (v := mI 2) hx hb dX11_tuned_30 rfl ?_
        refine r_icmp_le (tgt := 36) X dX11_tuned_31 (by decide) hf (fun hc hf => ?_) (fun hc hf => ?_)
        · refine lv_aload_n hx hb dX11_tuned_36 rfl (lv_at hl 0 rfl) ?_
          refine r_getr 26 X hw sh_0 fd_11_3 rfl rfl lf_X11_47 dX11_tuned_37 ?_
          refine lv_aload_n hx hb dX11_tuned_40 rfl (lv_at hl 0 rfl) ?_
          refine r_getr 20 X hw sh_0 fd_11_2 rfl rfl lf_X11_40 dX11_tuned_41 ?_
          refine lv_iload_n hx hb dX11_tuned_44 rfl (lv_at hl 1 rfl) ?_
          refine lv_iload_n hx hb dX11_tuned_45 rfl (lv_at hl 2 rfl) ?_
          refine lv_iload_n hx hb dX11_tuned_46 rfl (lv_at hl 3 rfl) ?_
          refine r_cvi (rest := []) [.ref (ad 20), .int (mI x1), .int (mI x2), .int (mI x3)] X hw (fun ra σa h => c_X0_bestEyes l D cy ad bs F 20 x1 x2 x3 σ5 ra σa sh_w20 h) sh_26 rfl (by decide) rfl km_X0_bestEyes kv_X0_bestEyes lm_X11_203 dX11_tuned_47 hl.1 rfl rfl (Nat.le_of_ble_eq_true rfl) ⟨by decide, by decide⟩ ⟨Nat.zero_le _, Nat.zero_le _⟩ hf (fun r6 σ7 _ hf H locs hw => ?_)
          exact r_iret X hw dX11_tuned_50 hf
        · exact w_X11_tuned_b34 X hw (lv_sub hl [0] rfl) hf
def g_X11_found_b27 (F : Nat)  (t0 : Int) (σ : mMem) : mRs := some (t0, σ)
set_option maxRecDepth 100000 in
set_option maxHeartbeats 4000000 in
theorem w_X11_found_b27 {p : Program} {l : Launch} {e : Env} {s : State} {m : MethodId} {args : Array Value} {below : List Frame} {meth : Method} {c : Code} {D : va_G} {cy : Nat → ClassId} {ad : Nat → Nat} {bs : Nat} {F : Nat}  (X : mCx p m c cX11_found 2 s args RX11 meth D cy (some .int))  {r : Int} {σ' : mMem}   {t0 : Int} {σ : mMem} {H : Heap} {locs : List Loc} {ls : Array Slot} (hw : mWd D cy ad bs true mN σ s.heap H locs) (hl : lv_has ls 2 [(0, .ref (ad 0))]) (hf : g_X11_found_b27 F t0 σ = some (r, σ')) : mGi p l e 5 s m args below meth c D cy ad bs r σ' H locs (F0 m 27 ls [.int (mI t0)]) := by
  obtain ⟨⟨hx, hb, -, -, -⟩, -⟩ := id X
  unfold g_X11_found_b27 at hf
  exact r_iret X hw dX11_found_27 hf
def g_X11_found (F : Nat) (x1 : Int) (σ : mMem) : mRs := if σ 0 8 = 3 ∨ σ 0 8 = 8 then mob (g_X5_hasBox F (σ 0 8).toNat x1 σ) (fun r2 σ3 => if mw r2 = 0 then (g_X11_found_b27 F (-1) σ3) else (mob (g_X0_fewestMoves F 20 x1 σ3) (fun r4 σ5 => g_X11_found_b27 F r4 σ5))) else none
set_option maxRecDepth 100000 in
set_option maxHeartbeats 4000000 in
theorem c_X11_found (l : Launch) (D : va_G) (cy : Nat → ClassId) (ad : Nat → Nat) (bs : Nat) (F : Nat)  (x1 : Int) (σ : mMem) (r : Int) (σ' : mMem)  (hf : g_X11_found F x1 σ = some (r, σ')) : mCi l D cy ad bs yX11_found cX11_found 2 (some .int) 5 [.ref (ad 0), .int (mI x1)] σ r σ' := by
  refine mCi.of (lv := [(0, .ref (ad 0)), (1, .int (mI x1))]) km_X11_found.2.2.2.2.2 (Nat.le_of_ble_eq_true rfl) rfl (fun p e s m args below meth c H locs ls X hw hl => ?_)
  obtain ⟨⟨hx, hb, -, -, -⟩, -⟩ := id X
  unfold g_X11_found at hf
  refine lv_aload_n hx hb dX11_found_0 rfl (lv_at hl 0 rfl) ?_
  refine r_getp X hw sh_0 fd_11_8 rfl lf_X11_19 dX11_found_1 hf (fun hg1 hf => ?_)
  refine lv_iload_n hx hb dX11_found_4 rfl (lv_at hl 1 rfl) ?_
  refine r_cvi (rest := []) [.int (mI x1)] X hw (fun ra σa h => c_X5_hasBox l D cy ad bs F (σ 0 8).toNat x1 σ ra σa (mPlan_z hg1) h) (mPlan_z hg1).1 rfl (by decide) rfl km_X5_hasBox kv_X5_hasBox lm_X11_151 dX11_found_5 hl.1 rfl rfl (Nat.le_of_ble_eq_true rfl) ⟨by decide, by decide⟩ ⟨Nat.zero_le _, Nat.zero_le _⟩ hf (fun r2 σ3 _ hf H locs hw => ?_)
  refine r_if_eq (tgt := 26) X dX11_found_8 (by decide) hf (fun hc hf => ?_) (fun hc hf => ?_)
  · refine lv_iconst (v := mI (-1)) hx hb dX11_found_26 rfl ?_
    exact w_X11_found_b27 X hw (lv_sub hl [0] rfl) hf
  · refine lv_aload_n hx hb dX11_found_11 rfl (lv_at hl 0 rfl) ?_
    refine r_getr 26 X hw sh_0 fd_11_3 rfl rfl lf_X11_47 dX11_found_12 ?_
    refine lv_aload_n hx hb dX11_found_15 rfl (lv_at hl 0 rfl) ?_
    refine r_getr 20 X hw sh_0 fd_11_2 rfl rfl lf_X11_40 dX11_found_16 ?_
    refine lv_iload_n hx hb dX11_found_19 rfl (lv_at hl 1 rfl) ?_
    refine r_cvi (rest := []) [.ref (ad 20), .int (mI x1)] X hw (fun ra σa h => c_X0_fewestMoves l D cy ad bs F 20 x1 σ3 ra σa sh_w20 h) sh_26 rfl (by decide) rfl km_X0_fewestMoves kv_X0_fewestMoves lm_X11_206 dX11_found_20 hl.1 rfl rfl (Nat.le_of_ble_eq_true rfl) ⟨by decide, by decide⟩ ⟨Nat.zero_le _, Nat.zero_le _⟩ hf (fun r4 σ5 _ hf H locs hw => ?_)
    refine lv_goto (tgt := 27) hx hb dX11_found_23 (by decide) ?_
    exact w_X11_found_b27 X hw (lv_sub hl [0] rfl) hf
def g_X11_spaced_b30 (F : Nat)  (t0 : Int) (σ : mMem) : mRs := some (t0, σ)
set_option maxRecDepth 100000 in
set_option maxHeartbeats 4000000 in
theorem w_X11_spaced_b30 {p : Program} {l : Launch} {e : Env} {s : State} {m : MethodId} {args : Array Value} {below : List Frame} {meth : Method} {c : Code} {D : va_G} {cy : Nat → ClassId} {ad : Nat → Nat} {bs : Nat} {F : Nat}  (X : mCx p m c cX11_spaced 2 s args RX11 meth D cy (some .int))  {r : Int} {σ' : mMem}   {t0 : Int} {σ : mMem} {H : Heap} {locs : List Loc} {ls : Array Slot} (hw : mWd D cy ad bs true mN σ s.heap H locs) (hl : lv_has ls 2 [(0, .ref (ad 0))]) (hf : g_X11_spaced_b30 F t0 σ = some (r, σ')) : mGi p l e 7 s m args below meth c D cy ad bs r σ' H locs (F0 m 30 ls [.int (mI t0)]) := by
  obtain ⟨⟨hx, hb, -, -, -⟩, -⟩ := id X
  unfold g_X11_spaced_b30 at hf
  exact r_iret X hw dX11_spaced_30 hf
def g_X11_spaced (F : Nat) (x1 : Int) (σ : mMem) : mRs := mob (g_X10_mayPass F 20 x1 1 80 σ) (fun r1 σ2 => if mw r1 = 0 then (g_X11_spaced_b30 F (-1) σ2) else (mob (g_X0_leastDelay F 20 x1 σ2) (fun r3 σ4 => g_X11_spaced_b30 F r3 σ4)))
set_option maxRecDepth 100000 in
set_option maxHeartbeats 4000000 in
theorem c_X11_spaced (l : Launch) (D : va_G) (cy : Nat → ClassId) (ad : Nat → Nat) (bs : Nat) (F : Nat)  (x1 : Int) (σ : mMem) (r : Int) (σ' : mMem)  (hf : g_X11_spaced F x1 σ = some (r, σ')) : mCi l D cy ad bs yX11_spaced cX11_spaced 2 (some .int) 7 [.ref (ad 0), .int (mI x1)] σ r σ' := by
  refine mCi.of (lv := [(0, .ref (ad 0)), (1, .int (mI x1))]) km_X11_spaced.2.2.2.2.2 (Nat.le_of_ble_eq_true rfl) rfl (fun p e s m args below meth c H locs ls X hw hl => ?_)
  obtain ⟨⟨hx, hb, -, -, -⟩, -⟩ := id X
  unfold g_X11_spaced at hf
  refine lv_aload_n hx hb dX11_spaced_0 rfl (lv_at hl 0 rfl) ?_
  refine r_getr 20 X hw sh_0 fd_11_2 rfl rfl lf_X11_40 dX11_spaced_1 ?_
  refine lv_iload_n hx hb dX11_spaced_4 rfl (lv_at hl 1 rfl) ?_
  refine lv_iconst (v := mI 1) hx hb dX11_spaced_5 rfl ?_
  refine lv_bipush (v := mI 80) hx hb dX11_spaced_6 (by decide) ?_
  refine r_cvi (rest := []) [.int (mI x1), .int (mI 1), .int (mI 80)] X hw (fun ra σa h => c_X10_mayPass l D cy ad bs F 20 x1 1 80 σ ra σa sh_w20 h) sh_20 rfl (by decide) rfl km_X10_mayPass kv_X10_mayPass lm_X11_180 dX11_spaced_8 hl.1 rfl rfl (Nat.le_of_ble_eq_true rfl) ⟨by decide, by decide⟩ ⟨Nat.zero_le _, Nat.zero_le _⟩ hf (fun r1 σ2 _ hf H locs hw => ?_)
  refine r_if_eq (tgt := 29) X dX11_spaced_11 (by decide) hf (fun hc hf => ?_) (fun hc hf => ?_)
  · refine lv_iconst (v := mI (-1)) hx hb dX11_spaced_29 rfl ?_
    exact w_X11_spaced_b30 X hw (lv_sub hl [0] rfl) hf
  · refine lv_aload_n hx hb dX11_spaced_14 rfl (lv_at hl 0 rfl) ?_
    refine r_getr 26 X hw sh_0 fd_11_3 rfl rfl lf_X11_47 dX11_spaced_15 ?_
    refine lv_aload_n hx hb dX11_spaced_18 rfl (lv_at hl 0 rfl) ?_
    refine r_getr 20 X hw sh_0 fd_11_2 rfl rfl lf_X11_40 dX11_spaced_19 ?_
    refine lv_iload_n hx hb dX11_spaced_22 rfl (lv_at hl 1 rfl) ?_
    refine r_cvi (rest := []) [.ref (ad 20), .int (mI x1)] X hw (fun ra σa h => c_X0_leastDelay l D cy ad bs F 20 x1 σ2 ra σa sh_w20 h) sh_26 rfl (by decide) rfl km_X0_leastDelay kv_X0_leastDelay lm_X11_209 dX11_spaced_23 hl.1 rfl rfl (Nat.le_of_ble_eq_true rfl) ⟨by decide, by decide⟩ ⟨Nat.zero_le _, Nat.zero_le _⟩ hf (fun r3 σ4 _ hf H locs hw => ?_)
    refine lv_goto (tgt := 30) hx hb dX11_spaced_26 (by decide) ?_
    exact w_X11_spaced_b30 X hw (lv_sub hl [0] rfl) hf
def g_X11_bright_b30 (F : Nat)  (t0 : Int) (σ : mMem) : mRs := some (t0, σ)
set_option maxRecDepth 100000 in
set_option maxHeartbeats 4000000 in
theorem w_X11_bright_b30 {p : Program} {l : Launch} {e : Env} {s : State} {m : MethodId} {args : Array Value} {below : List Frame} {meth : Method} {c : Code} {D : va_G} {cy : Nat → ClassId} {ad : Nat → Nat} {bs : Nat} {F : Nat}  (X : mCx p m c cX11_bright 2 s args RX11 meth D cy (some .int))  {r : Int} {σ' : mMem}   {t0 : Int} {σ : mMem} {H : Heap} {locs : List Loc} {ls : Array Slot} (hw : mWd D cy ad bs true mN σ s.heap H locs) (hl : lv_has ls 2 [(0, .ref (ad 0))]) (hf : g_X11_bright_b30 F t0 σ = some (r, σ')) : mGi p l e 7 s m args below meth c D cy ad bs r σ' H locs (F0 m 30 ls [.int (mI t0)]) := by
  obtain ⟨⟨hx, hb, -, -, -⟩, -⟩ := id X
  unfold g_X11_bright_b30 at hf
  exact r_iret X hw dX11_bright_30 hf
def g_X11_bright (F : Nat) (x1 : Int) (σ : mMem) : mRs := mob (g_X10_mayPass F 20 x1 1 60 σ) (fun r1 σ2 => if mw r1 = 0 then (g_X11_bright_b30 F (-1) σ2) else (mob (g_X0_brightestLamp F 20 x1 σ2) (fun r3 σ4 => g_X11_bright_b30 F r3 σ4)))
set_option maxRecDepth 100000 in
set_option maxHeartbeats 4000000 in
theorem c_X11_bright (l : Launch) (D : va_G) (cy : Nat → ClassId) (ad : Nat → Nat) (bs : Nat) (F : Nat)  (x1 : Int) (σ : mMem) (r : Int) (σ' : mMem)  (hf : g_X11_bright F x1 σ = some (r, σ')) : mCi l D cy ad bs yX11_bright cX11_bright 2 (some .int) 7 [.ref (ad 0), .int (mI x1)] σ r σ' := by
  refine mCi.of (lv := [(0, .ref (ad 0)), (1, .int (mI x1))]) km_X11_bright.2.2.2.2.2 (Nat.le_of_ble_eq_true rfl) rfl (fun p e s m args below meth c H locs ls X hw hl => ?_)
  obtain ⟨⟨hx, hb, -, -, -⟩, -⟩ := id X
  unfold g_X11_bright at hf
  refine lv_aload_n hx hb dX11_bright_0 rfl (lv_at hl 0 rfl) ?_
  refine r_getr 20 X hw sh_0 fd_11_2 rfl rfl lf_X11_40 dX11_bright_1 ?_
  refine lv_iload_n hx hb dX11_bright_4 rfl (lv_at hl 1 rfl) ?_
  refine lv_iconst (v := mI 1) hx hb dX11_bright_5 rfl ?_
  refine lv_bipush (v := mI 60) hx hb dX11_bright_6 (by decide) ?_
  refine r_cvi (rest := []) [.int (mI x1), .int (mI 1), .int (mI 60)] X hw (fun ra σa h => c_X10_mayPass l D cy ad bs F 20 x1 1 60 σ ra σa sh_w20 h) sh_20 rfl (by decide) rfl km_X10_mayPass kv_X10_mayPass lm_X11_180 dX11_bright_8 hl.1 rfl rfl (Nat.le_of_ble_eq_true rfl) ⟨by decide, by decide⟩ ⟨Nat.zero_le _, Nat.zero_le _⟩ hf (fun r1 σ2 _ hf H locs hw => ?_)
  refine r_if_eq (tgt := 29) X dX11_bright_11 (by decide) hf (fun hc hf => ?_) (fun hc hf => ?_)
  · refine lv_iconst (v := mI (-1)) hx hb dX11_bright_29 rfl ?_
    exact w_X11_bright_b30 X hw (lv_sub hl [0] rfl) hf
  · refine lv_aload_n hx hb dX11_bright_14 rfl (lv_at hl 0 rfl) ?_
    refine r_getr 26 X hw sh_0 fd_11_3 rfl rfl lf_X11_47 dX11_bright_15 ?_
    refine lv_aload_n hx hb dX11_bright_18 rfl (lv_at hl 0 rfl) ?_
    refine r_getr 20 X hw sh_0 fd_11_2 rfl rfl lf_X11_40 dX11_bright_19 ?_
    refine lv_iload_n hx hb dX11_bright_22 rfl (lv_at hl 1 rfl) ?_
    refine r_cvi (rest := []) [.ref (ad 20), .int (mI x1)] X hw (fun ra σa h => c_X0_brightestLamp l D cy ad bs F 20 x1 σ2 ra σa sh_w20 h) sh_26 rfl (by decide) rfl km_X0_brightestLamp kv_X0_brightestLamp lm_X11_212 dX11_bright_23 hl.1 rfl rfl (Nat.le_of_ble_eq_true rfl) ⟨by decide, by decide⟩ ⟨Nat.zero_le _, Nat.zero_le _⟩ hf (fun r3 σ4 _ hf H locs hw => ?_)
    refine lv_goto (tgt := 30) hx hb dX11_bright_26 (by decide) ?_
    exact w_X11_bright_b30 X hw (lv_sub hl [0] rfl) hf
def g_X11_track_b43 (F : Nat)  (t0 : Int) (σ : mMem) : mRs := some (t0, σ)
set_option maxRecDepth 100000 in
set_option maxHeartbeats 4000000 in
theorem w_X11_track_b43 {p : Program} {l : Launch} {e : Env} {s : State} {m : MethodId} {args : Array Value} {below : List Frame} {meth : Method} {c : Code} {D : va_G} {cy : Nat → ClassId} {ad : Nat → Nat} {bs : Nat} {F : Nat}  (X : mCx p m c cX11_track 2 s args RX11 meth D cy (some .int))  {r : Int} {σ' : mMem}   {t0 : Int} {σ : mMem} {H : Heap} {locs : List Loc} {ls : Array Slot} (hw : mWd D cy ad bs true mN σ s.heap H locs) (hl : lv_has ls 2 [(0, .ref (ad 0))]) (hf : g_X11_track_b43 F t0 σ = some (r, σ')) : mGi p l e 3 s m args below meth c D cy ad bs r σ' H locs (F0 m 43 ls [.int (mI t0)]) := by
  obtain ⟨⟨hx, hb, -, -, -⟩, -⟩ := id X
  unfold g_X11_track_b43 at hf
  exact r_iret X hw dX11_track_43 hf
def g_X11_track (F : Nat) (σ : mMem) : mRs := if σ 0 8 = 3 ∨ σ 0 8 = 8 then mob (g_X9_takeRows F (σ 0 8).toNat σ) (fun r2 σ3 => mlm (mup σ3 1 1 0) (fun σ4 => if mw r2 = 0 then (mob (g_X11_refuse F 5 σ4) (fun r5 σ6 => g_X11_track_b43 F r5 σ6)) else (g_X11_track_b43 F (σ4 35 3) σ4))) else none
set_option maxRecDepth 100000 in
set_option maxHeartbeats 4000000 in
theorem c_X11_track (l : Launch) (D : va_G) (cy : Nat → ClassId) (ad : Nat → Nat) (bs : Nat) (F : Nat)   (σ : mMem) (r : Int) (σ' : mMem)  (hf : g_X11_track F  σ = some (r, σ')) : mCi l D cy ad bs yX11_track cX11_track 2 (some .int) 3 [.ref (ad 0)] σ r σ' := by
  refine mCi.of (lv := [(0, .ref (ad 0))]) km_X11_track.2.2.2.2.2 (Nat.le_of_ble_eq_true rfl) rfl (fun p e s m args below meth c H locs ls X hw hl => ?_)
  obtain ⟨⟨hx, hb, -, -, -⟩, -⟩ := id X
  unfold g_X11_track at hf
  refine lv_aload_n hx hb dX11_track_0 rfl (lv_at hl 0 rfl) ?_
  refine r_getr 35 X hw sh_0 fd_11_4 rfl rfl lf_X11_54 dX11_track_1 ?_
  refine lv_aload_n hx hb dX11_track_4 rfl (lv_at hl 0 rfl) ?_
  refine r_getr 1 X hw sh_0 fd_11_0 rfl rfl lf_X11_10 dX11_track_5 ?_
  refine lv_aload_n hx hb dX11_track_8 rfl (lv_at hl 0 rfl) ?_
  refine r_getp X hw sh_0 fd_11_8 rfl lf_X11_19 dX11_track_9 hf (fun hg1 hf => ?_)
  refine r_cvi (rest := []) [.ref (ad 1), .ref (ad (σ 0 8).toNat)] X hw (fun ra σa h => c_X9_takeRows l D cy ad bs F (σ 0 8).toNat σ ra σa (mPlan_z hg1) h) sh_35 rfl (by decide) rfl km_X9_takeRows kv_X9_takeRows lm_X11_215 dX11_track_12 hl.1 rfl rfl (Nat.le_of_ble_eq_true rfl) ⟨by decide, by decide⟩ ⟨Nat.zero_le _, Nat.zero_le _⟩ hf (fun r2 σ3 _ hf H locs hw => ?_)
  refine lv_istore_n (lv' := [(1, .int (mI r2)), (0, .ref (ad 0))]) hx hb dX11_track_15 rfl hl (by decide) rfl (fun ls hl => ?_)
  refine lv_aload_n hx hb dX11_track_16 rfl (lv_at hl 1 rfl) ?_
  refine r_getr 1 X hw sh_0 fd_11_0 rfl rfl lf_X11_10 dX11_track_17 ?_
  refine lv_iconst (v := mI 0) hx hb dX11_track_20 rfl ?_
  refine r_puti X hw sh_1 fd_7_1 fp_7_1 rfl rfl lf_X11_98 dX11_track_21 (fun H locs hw => ?_)
  refine r_mem hf hw (fun σ4 hw hf => ?_)
  refine lv_iload_n hx hb dX11_track_24 rfl (lv_at hl 0 rfl) ?_
  refine r_if_eq (tgt := 38) X dX11_track_25 (by decide) hf (fun hc hf => ?_) (fun hc hf => ?_)
  · refine lv_aload_n hx hb dX11_track_38 rfl (lv_at hl 1 rfl) ?_
    refine lv_iconst (v := mI 5) hx hb dX11_track_39 rfl ?_
    refine r_cvi (rest := []) [.int (mI 5)] X hw (fun ra σa h => c_X11_refuse l D cy ad bs F 5 σ4 ra σa  h) sh_0 rfl (by decide) rfl km_X11_refuse kv_X11_refuse lm_X11_90 dX11_track_40 hl.1 rfl rfl (Nat.le_of_ble_eq_true rfl) ⟨by decide, by decide⟩ ⟨Nat.zero_le _, Nat.zero_le _⟩ hf (fun r5 σ6 _ hf H locs hw => ?_)
    exact w_X11_track_b43 X hw (lv_sub hl [1] rfl) hf
  · refine lv_aload_n hx hb dX11_track_28 rfl (lv_at hl 1 rfl) ?_
    refine r_getr 35 X hw sh_0 fd_11_4 rfl rfl lf_X11_54 dX11_track_29 ?_
    refine r_geti X hw sh_35 fd_9_3 rfl lf_X11_219 dX11_track_32 ?_
    refine lv_goto (tgt := 43) hx hb dX11_track_35 (by decide) ?_
    exact w_X11_track_b43 X hw (lv_sub hl [1] rfl) hf
def g_X11_wheel_b51 (F : Nat)  (t0 : Int) (σ : mMem) : mRs := some (t0, σ)
set_option maxRecDepth 100000 in
set_option maxHeartbeats 4000000 in
theorem w_X11_wheel_b51 {p : Program} {l : Launch} {e : Env} {s : State} {m : MethodId} {args : Array Value} {below : List Frame} {meth : Method} {c : Code} {D : va_G} {cy : Nat → ClassId} {ad : Nat → Nat} {bs : Nat} {F : Nat}  (X : mCx p m c cX11_wheel 3 s args RX11 meth D cy (some .int))  {r : Int} {σ' : mMem}   {t0 : Int} {σ : mMem} {H : Heap} {locs : List Loc} {ls : Array Slot} (hw : mWd D cy ad bs true mN σ s.heap H locs) (hl : lv_has ls 3 [(0, .ref (ad 0))]) (hf : g_X11_wheel_b51 F t0 σ = some (r, σ')) : mGi p l e 8 s m args below meth c D cy ad bs r σ' H locs (F0 m 51 ls [.int (mI t0)]) := by
  obtain ⟨⟨hx, hb, -, -, -⟩, -⟩ := id X
  unfold g_X11_wheel_b51 at hf
  exact r_iret X hw dX11_wheel_51 hf
def g_X11_wheel (F : Nat) (x1 x2 : Int) (σ : mMem) : mRs := if σ 0 8 = 3 ∨ σ 0 8 = 8 then mob (g_X5_hasBox F (σ 0 8).toNat x1 σ) (fun r2 σ3 => if ¬ mw r2 = 0 then (if ¬ mw x2 = 0 then (if ¬ mw x2 = mw 1 then (g_X11_wheel_b51 F (-1) σ3) else (mob (g_X9_tellingSteps F 20 x1 σ3) (fun r4 σ5 => g_X11_wheel_b51 F r4 σ5))) else (mob (g_X9_biasBits F 20 x1 σ3) (fun r6 σ7 => some (r6, σ7)))) else (some ((-1), σ3))) else none
set_option maxRecDepth 100000 in
set_option maxHeartbeats 4000000 in
theorem c_X11_wheel (l : Launch) (D : va_G) (cy : Nat → ClassId) (ad : Nat → Nat) (bs : Nat) (F : Nat)  (x1 x2 : Int) (σ : mMem) (r : Int) (σ' : mMem)  (hf : g_X11_wheel F x1 x2 σ = some (r, σ')) : mCi l D cy ad bs yX11_wheel cX11_wheel 3 (some .int) 8 [.ref (ad 0), .int (mI x1), .int (mI x2)] σ r σ' := by
  refine mCi.of (lv := [(0, .ref (ad 0)), (1, .int (mI x1)), (2, .int (mI x2))]) km_X11_wheel.2.2.2.2.2 (Nat.le_of_ble_eq_true rfl) rfl (fun p e s m args below meth c H locs ls X hw hl => ?_)
  obtain ⟨⟨hx, hb, -, -, -⟩, -⟩ := id X
  unfold g_X11_wheel at hf
  refine lv_aload_n hx hb dX11_wheel_0 rfl (lv_at hl 0 rfl) ?_
  refine r_getp X hw sh_0 fd_11_8 rfl lf_X11_19 dX11_wheel_1 hf (fun hg1 hf => ?_)
  refine lv_iload_n hx hb dX11_wheel_4 rfl (lv_at hl 1 rfl) ?_
  refine r_cvi (rest := []) [.int (mI x1)] X hw (fun ra σa h => c_X5_hasBox l D cy ad bs F (σ 0 8).toNat x1 σ ra σa (mPlan_z hg1) h) (mPlan_z hg1).1 rfl (by decide) rfl km_X5_hasBox kv_X5_hasBox lm_X11_151 dX11_wheel_5 hl.1 rfl rfl (Nat.le_of_ble_eq_true rfl) ⟨by decide, by decide⟩ ⟨Nat.zero_le _, Nat.zero_le _⟩ hf (fun r2 σ3 _ hf H locs hw => ?_)
  refine r_if_ne (tgt := 13) X dX11_wheel_8 (by decide) hf (fun hc hf => ?_) (fun hc hf => ?_)
  · refine lv_iload_n hx hb dX11_wheel_13 rfl (lv_at hl 2 rfl) ?_
    refine r_if_ne (tgt := 30) X dX11_wheel_14 (by decide) hf (fun hc hf => ?_) (fun hc hf => ?_)
    · refine lv_iload_n hx hb dX11_wheel_30 rfl (lv_at hl 2 rfl) ?_
      refine lv_iconst (v := mI 1) hx hb dX11_wheel_31 rfl ?_
      refine r_icmp_ne (tgt := 50) X dX11_wheel_32 (by decide) hf (fun hc hf => ?_) (fun hc hf => ?_)
      · refine lv_iconst (v := mI (-1)) hx hb dX11_wheel_50 rfl ?_
        exact w_X11_wheel_b51 X hw (lv_sub hl [0] rfl) hf
      · refine lv_aload_n hx hb dX11_wheel_35 rfl (lv_at hl 0 rfl) ?_
        refine r_getr 35 X hw sh_0 fd_11_4 rfl rfl lf_X11_54 dX11_wheel_36 ?_
        refine lv_aload_n hx hb dX11_wheel_39 rfl (lv_at hl 0 rfl) ?_
        refine r_getr 20 X hw sh_0 fd_11_2 rfl rfl lf_X11_40 dX11_wheel_40 ?_
        refine lv_iload_n hx hb dX11_wheel_43 rfl (lv_at hl 1 rfl) ?_
        refine r_cvi (rest := []) [.ref (ad 20), .int (mI x1)] X hw (fun ra σa h => c_X9_tellingSteps l D cy ad bs F 20 x1 σ3 ra σa sh_w20 h) sh_35 rfl (by decide) rfl km_X9_tellingSteps kv_X9_tellingSteps lm_X11_225 dX11_wheel_44 hl.1 rfl rfl (Nat.le_of_ble_eq_true rfl) ⟨by decide, by decide⟩ ⟨Nat.zero_le _, Nat.zero_le _⟩ hf (fun r4 σ5 _ hf H locs hw => ?_)
        refine lv_goto (tgt := 51) hx hb dX11_wheel_47 (by decide) ?_
        exact w_X11_wheel_b51 X hw (lv_sub hl [0] rfl) hf
    · refine lv_aload_n hx hb dX11_wheel_17 rfl (lv_at hl 0 rfl) ?_
      refine r_getr 35 X hw sh_0 fd_11_4 rfl rfl lf_X11_54 dX11_wheel_18 ?_
      refine lv_aload_n hx hb dX11_wheel_21 rfl (lv_at hl 0 rfl) ?_
      refine r_getr 20 X hw sh_0 fd_11_2 rfl rfl lf_X11_40 dX11_wheel_22 ?_
      refine lv_iload_n hx hb dX11_wheel_25 rfl (lv_at hl 1 rfl) ?_
      refine r_cvi (rest := []) [.ref (ad 20), .int (mI x1)] X hw (fun ra σa h => c_X9_biasBits l D cy ad bs F 20 x1 σ3 ra σa sh_w20 h) sh_35 rfl (by decide) rfl km_X9_biasBits kv_X9_biasBits lm_X11_222 dX11_wheel_26 hl.1 rfl rfl (Nat.le_of_ble_eq_true rfl) ⟨by decide, by decide⟩ ⟨Nat.zero_le _, Nat.zero_le _⟩ hf (fun r6 σ7 _ hf H locs hw => ?_)
      exact r_iret X hw dX11_wheel_29 hf
  · refine lv_iconst (v := mI (-1)) hx hb dX11_wheel_11 rfl ?_
    exact r_iret X hw dX11_wheel_12 hf
def g_X11_passStep (F : Nat) (σ : mMem) : mRs := mob (g_X10_pass F 20 0 0 σ) (fun r1 σ2 => mob (g_X3_keepStep F 20 σ2) (fun r3 σ4 => some (σ4 20 6, σ4)))
set_option maxRecDepth 100000 in
set_option maxHeartbeats 4000000 in
theorem c_X11_passStep (l : Launch) (D : va_G) (cy : Nat → ClassId) (ad : Nat → Nat) (bs : Nat) (F : Nat)   (σ : mMem) (r : Int) (σ' : mMem)  (hf : g_X11_passStep F  σ = some (r, σ')) : mCi l D cy ad bs yX11_passStep cX11_passStep 1 (some .int) 6 [.ref (ad 0)] σ r σ' := by
  refine mCi.of (lv := [(0, .ref (ad 0))]) km_X11_passStep.2.2.2.2.2 (Nat.le_of_ble_eq_true rfl) rfl (fun p e s m args below meth c H locs ls X hw hl => ?_)
  obtain ⟨⟨hx, hb, -, -, -⟩, -⟩ := id X
  unfold g_X11_passStep at hf
  refine lv_aload_n hx hb dX11_passStep_0 rfl (lv_at hl 0 rfl) ?_
  refine r_getr 20 X hw sh_0 fd_11_2 rfl rfl lf_X11_40 dX11_passStep_1 ?_
  refine lv_iconst (v := mI 0) hx hb dX11_passStep_4 rfl ?_
  refine lv_iconst (v := mI 0) hx hb dX11_passStep_5 rfl ?_
  refine r_cvv (rest := []) [.int (mI 0), .int (mI 0)] X hw (fun ra σa h => c_X10_pass l D cy ad bs F 20 0 0 σ ra σa sh_w20 h) sh_20 rfl (by decide) rfl km_X10_pass kv_X10_pass lm_X11_258 dX11_passStep_6 hl.1 rfl rfl (Nat.le_of_ble_eq_true rfl) ⟨by decide, by decide⟩ ⟨Nat.zero_le _, Nat.zero_le _⟩ hf (fun r1 σ2 _ hf H locs hw => ?_)
  refine lv_aload_n hx hb dX11_passStep_9 rfl (lv_at hl 0 rfl) ?_
  refine r_getr 54 X hw sh_0 fd_11_5 rfl rfl lf_X11_61 dX11_passStep_10 ?_
  refine lv_aload_n hx hb dX11_passStep_13 rfl (lv_at hl 0 rfl) ?_
  refine r_getr 20 X hw sh_0 fd_11_2 rfl rfl lf_X11_40 dX11_passStep_14 ?_
  refine r_cvv (rest := []) [.ref (ad 20)] X hw (fun ra σa h => c_X3_keepStep l D cy ad bs F 20 σ2 ra σa sh_w20 h) sh_54 rfl (by decide) rfl km_X3_keepStep kv_X3_keepStep lm_X11_262 dX11_passStep_17 hl.1 rfl rfl (Nat.le_of_ble_eq_true rfl) ⟨by decide, by decide⟩ ⟨Nat.zero_le _, Nat.zero_le _⟩ hf (fun r3 σ4 _ hf H locs hw => ?_)
  refine lv_aload_n hx hb dX11_passStep_20 rfl (lv_at hl 0 rfl) ?_
  refine r_getr 20 X hw sh_0 fd_11_2 rfl rfl lf_X11_40 dX11_passStep_21 ?_
  refine r_geti X hw sh_20 fd_10_6 rfl lf_X11_265 dX11_passStep_24 ?_
  exact r_iret X hw dX11_passStep_27 hf
def g_X11_steps_h35 (F : Nat)  : Nat → Int → Int → Int → mMem → mRs
  | 0, _, _, _, _ => none
  | n + 1, x1, x2, x3, σ => if mw x1 ≤ mw x3 then (some (x2, σ)) else (mob (g_X11_passStep F σ) (fun r107 σ108 => mlet (x2 + r107) (fun y109 => (g_X11_steps_h35 F n) x1 y109 (x3 + 1) σ108)))
set_option maxRecDepth 100000 in
set_option maxHeartbeats 4000000 in
theorem w_X11_steps_h35 {p : Program} {l : Launch} {e : Env} {s : State} {m : MethodId} {args : Array Value} {below : List Frame} {meth : Method} {c : Code} {D : va_G} {cy : Nat → ClassId} {ad : Nat → Nat} {bs : Nat} {F : Nat}  (X : mCx p m c cX11_steps 4 s args RX11 meth D cy (some .int))  {r : Int} {σ' : mMem}   (n : Nat) : ∀ {x1 x2 x3 : Int} {σ : mMem} {H : Heap} {locs : List Loc} {ls : Array Slot} (_ : mWd D cy ad bs true mN σ s.heap H locs) (_ : lv_has ls 4 [(0, .ref (ad 0)), (1, .int (mI x1)), (2, .int (mI x2)), (3, .int (mI x3))]) (_ : g_X11_steps_h35 F n x1 x2 x3 σ = some (r, σ')), mGi p l e 7 s m args below meth c D cy ad bs r σ' H locs (F0 m 35 ls []) := by
  obtain ⟨⟨hx, hb, -, -, -⟩, -⟩ := id X
  induction n with
  | zero =>
    intro x1 x2 x3 σ H locs ls hw hl hf
    unfold g_X11_steps_h35 at hf
    cases hf
  | succ n ih =>
    have hk35 : ∀ (x1 x2 x3 : Int) (σ : mMem) (H : Heap) (locs : List Loc) (ls : Array Slot), mWd D cy ad bs true mN σ s.heap H locs → lv_has ls 4 [(0, .ref (ad 0)), (1, .int (mI x1)), (2, .int (mI x2)), (3, .int (mI x3))] → g_X11_steps_h35 F n x1 x2 x3 σ = some (r, σ') → mGi p l e 7 s m args below meth c D cy ad bs r σ' H locs (F0 m 35 ls []) := fun x1 x2 x3 σ H locs ls hw hl hf => ih hw hl hf
    intro x1 x2 x3 σ H locs ls hw hl hf
    unfold g_X11_steps_h35 at hf
    refine lv_iload_n hx hb dX11_steps_35 rfl (lv_at hl 3 rfl) ?_
    refine lv_iload_n hx hb dX11_steps_36 rfl (lv_at hl 1 rfl) ?_
    refine r_icmp_ge (tgt := 53) X dX11_steps_37 (by decide) hf (fun hc hf => ?_) (fun hc hf => ?_)
    · refine lv_iload_n hx hb dX11_steps_53 rfl (lv_at hl 2 rfl) ?_
      exact r_iret X hw dX11_steps_54 hf
    · refine lv_iload_n hx hb dX11_steps_40 rfl (lv_at hl 2 rfl) ?_
      refine lv_aload_n hx hb dX11_steps_41 rfl (lv_at hl 0 rfl) ?_
      refine r_cvi (rest := [.int (mI x2)]) [] X hw (fun ra σa h => c_X11_passStep l D cy ad bs F σ ra σa  h) sh_0 rfl (by decide) rfl km_X11_passStep kv_X11_passStep lm_X11_232 dX11_steps_42 hl.1 rfl rfl (Nat.le_of_ble_eq_true rfl) ⟨by decide, by decide⟩ ⟨Nat.zero_le _, Nat.zero_le _⟩ hf (fun r107 σ108 _ hf H locs hw => ?_)
      refine r_iadd X dX11_steps_45 ?_
      refine r_leti hf (fun y109 hf => ?_)
      refine lv_istore_n (lv' := [(2, .int (mI y109)), (0, .ref (ad 0)), (1, .int (mI x1)), (3, .int (mI x3))]) hx hb dX11_steps_46 rfl hl (by decide) rfl (fun ls hl => ?_)
      refine lv_iinc (v := mI (x3 + 1)) (lv' := [(3, .int (mI (x3 + 1))), (2, .int (mI y109)), (0, .ref (ad 0)), (1, .int (mI x1))]) hx hb dX11_steps_47 hl (k := 3) rfl (mI_add _ _) (by decide) rfl (fun ls hl => ?_)
      refine lv_goto (tgt := 35) hx hb dX11_steps_50 (by decide) ?_
      exact hk35 x1 y109 (x3 + 1) σ108 _ _ _ hw (lv_sub hl [2, 3, 1, 0] rfl) hf
def g_X11_steps (F : Nat) (x1 : Int) (σ : mMem) : mRs := mob (g_X10_mayPass F 20 x1 1 100 σ) (fun r1 σ2 => if ¬ mw r1 = 0 then (mob (g_X3_remember F 20 σ2) (fun r3 σ4 => g_X11_steps_h35 F F x1 0 0 σ4)) else (mob (g_X11_refuse F 2 σ2) (fun r5 σ6 => some (r5, σ6))))
set_option maxRecDepth 100000 in
set_option maxHeartbeats 4000000 in
theorem c_X11_steps (l : Launch) (D : va_G) (cy : Nat → ClassId) (ad : Nat → Nat) (bs : Nat) (F : Nat)  (x1 : Int) (σ : mMem) (r : Int) (σ' : mMem)  (hf : g_X11_steps F x1 σ = some (r, σ')) : mCi l D cy ad bs yX11_steps cX11_steps 4 (some .int) 7 [.ref (ad 0), .int (mI x1)] σ r σ' := by
  refine mCi.of (lv := [(0, .ref (ad 0)), (1, .int (mI x1))]) km_X11_steps.2.2.2.2.2 (Nat.le_of_ble_eq_true rfl) rfl (fun p e s m args below meth c H locs ls X hw hl => ?_)
  obtain ⟨⟨hx, hb, -, -, -⟩, -⟩ := id X
  unfold g_X11_steps at hf
  refine lv_aload_n hx hb dX11_steps_0 rfl (lv_at hl 0 rfl) ?_
  refine r_getr 20 X hw sh_0 fd_11_2 rfl rfl lf_X11_40 dX11_steps_1 ?_
  refine lv_iload_n hx hb dX11_steps_4 rfl (lv_at hl 1 rfl) ?_
  refine lv_iconst (v := mI 1) hx hb dX11_steps_5 rfl ?_
  refine lv_bipush (v := mI 100) hx hb dX11_steps_6 (by decide) ?_
  refine r_cvi (rest := []) [.int (mI x1), .int (mI 1), .int (mI 100)] X hw (fun ra σa h => c_X10_mayPass l D cy ad bs F 20 x1 1 100 σ ra σa sh_w20 h) sh_20 rfl (by decide) rfl km_X10_mayPass kv_X10_mayPass lm_X11_180 dX11_steps_8 hl.1 rfl rfl (Nat.le_of_ble_eq_true rfl) ⟨by decide, by decide⟩ ⟨Nat.zero_le _, Nat.zero_le _⟩ hf (fun r1 σ2 _ hf H locs hw => ?_)
  refine r_if_ne (tgt := 20) X dX11_steps_11 (by decide) hf (fun hc hf => ?_) (fun hc hf => ?_)
  · refine lv_aload_n hx hb dX11_steps_20 rfl (lv_at hl 0 rfl) ?_
    refine r_getr 54 X hw sh_0 fd_11_5 rfl rfl lf_X11_61 dX11_steps_21 ?_
    refine lv_aload_n hx hb dX11_steps_24 rfl (lv_at hl 0 rfl) ?_
    refine r_getr 20 X hw sh_0 fd_11_2 rfl rfl lf_X11_40 dX11_steps_25 ?_
    refine r_cvv (rest := []) [.ref (ad 20)] X hw (fun ra σa h => c_X3_remember l D cy ad bs F 20 σ2 ra σa sh_w20 h) sh_54 rfl (by decide) rfl km_X3_remember kv_X3_remember lm_X11_228 dX11_steps_28 hl.1 rfl rfl (Nat.le_of_ble_eq_true rfl) ⟨by decide, by decide⟩ ⟨Nat.zero_le _, Nat.zero_le _⟩ hf (fun r3 σ4 _ hf H locs hw => ?_)
    refine lv_iconst (v := mI 0) hx hb dX11_steps_31 rfl ?_
    refine lv_istore_n (lv' := [(2, .int (mI 0)), (0, .ref (ad 0)), (1, .int (mI x1))]) hx hb dX11_steps_32 rfl hl (by decide) rfl (fun ls hl => ?_)
    refine lv_iconst (v := mI 0) hx hb dX11_steps_33 rfl ?_
    refine lv_istore_n (lv' := [(3, .int (mI 0)), (2, .int (mI 0)), (0, .ref (ad 0)), (1, .int (mI x1))]) hx hb dX11_steps_34 rfl hl (by decide) rfl (fun ls hl => ?_)
    exact w_X11_steps_h35 X _ hw (lv_sub hl [2, 3, 1, 0] rfl) hf
  · refine lv_aload_n hx hb dX11_steps_14 rfl (lv_at hl 0 rfl) ?_
    refine lv_iconst (v := mI 2) hx hb dX11_steps_15 rfl ?_
    refine r_cvi (rest := []) [.int (mI 2)] X hw (fun ra σa h => c_X11_refuse l D cy ad bs F 2 σ2 ra σa  h) sh_0 rfl (by decide) rfl km_X11_refuse kv_X11_refuse lm_X11_90 dX11_steps_16 hl.1 rfl rfl (Nat.le_of_ble_eq_true rfl) ⟨by decide, by decide⟩ ⟨Nat.zero_le _, Nat.zero_le _⟩ hf (fun r5 σ6 _ hf H locs hw => ?_)
    exact r_iret X hw dX11_steps_19 hf
def g_X11_draw_b41 (F : Nat)  (t0 : Int) (σ : mMem) : mRs := some (t0, σ)
set_option maxRecDepth 100000 in
set_option maxHeartbeats 4000000 in
theorem w_X11_draw_b41 {p : Program} {l : Launch} {e : Env} {s : State} {m : MethodId} {args : Array Value} {below : List Frame} {meth : Method} {c : Code} {D : va_G} {cy : Nat → ClassId} {ad : Nat → Nat} {bs : Nat} {F : Nat}  (X : mCx p m c cX11_draw 4 s args RX11 meth D cy (some .int))  {r : Int} {σ' : mMem}   {t0 : Int} {σ : mMem} {H : Heap} {locs : List Loc} {ls : Array Slot} (hw : mWd D cy ad bs true mN σ s.heap H locs) (hl : lv_has ls 4 [(0, .ref (ad 0))]) (hf : g_X11_draw_b41 F t0 σ = some (r, σ')) : mGi p l e 1 s m args below meth c D cy ad bs r σ' H locs (F0 m 41 ls [.int (mI t0)]) := by
  obtain ⟨⟨hx, hb, -, -, -⟩, -⟩ := id X
  unfold g_X11_draw_b41 at hf
  exact r_iret X hw dX11_draw_41 hf
def g_X11_draw (F : Nat) (x1 : Int) (σ : mMem) : mRs := if mwl 2147483648 = 0 then none else (mlet ((mwl ((1103515245 * (mw (σ 0 12))) + 12345)).tmod (mwl 2147483648)) (fun y1 => mlm (mup σ 0 12 y1) (fun σ2 => if mw x1 ≤ 0 then (g_X11_draw_b41 F 0 σ2) else (if mwl 64 = 0 then none else (if mwl (mw x1) = 0 then none else (g_X11_draw_b41 F ((mwl ((mwl y1).tdiv (mwl 64))).tmod (mwl (mw x1))) σ2))))))
set_option maxRecDepth 100000 in
set_option maxHeartbeats 4000000 in
theorem c_X11_draw (l : Launch) (D : va_G) (cy : Nat → ClassId) (ad : Nat → Nat) (bs : Nat) (F : Nat)  (x1 : Int) (σ : mMem) (r : Int) (σ' : mMem)  (hf : g_X11_draw F x1 σ = some (r, σ')) : mCi l D cy ad bs yX11_draw cX11_draw 4 (some .int) 1 [.ref (ad 0), .int (mI x1)] σ r σ' := by
  refine mCi.of (lv := [(0, .ref (ad 0)), (1, .int (mI x1))]) km_X11_draw.2.2.2.2.2 (Nat.le_of_ble_eq_true rfl) rfl (fun p e s m args below meth c H locs ls X hw hl => ?_)
  obtain ⟨⟨hx, hb, -, -, -⟩, -⟩ := id X
  unfold g_X11_draw at hf
  refine r_ldc2 (z := 1103515245) (by decide) X lc_X11_277 dX11_draw_0 ?_
  refine lv_aload_n hx hb dX11_draw_3 rfl (lv_at hl 0 rfl) ?_
  refine r_geti X hw sh_0 fd_11_12 rfl lf_X11_83 dX11_draw_4 ?_
  refine r_i2l X dX11_draw_7 ?_
  refine r_lmul X dX11_draw_8 ?_
  refine r_ldc2 (z := 12345) (by decide) X lc_X11_279 dX11_draw_9 ?_
  refine r_ladd X dX11_draw_12 ?_
  refine r_ldc2 (z := 2147483648) (by decide) X lc_X11_281 dX11_draw_13 ?_
  refine r_lrem X dX11_draw_16 hf (fun hf => ?_)
  refine r_letl hf (fun y1 hf => ?_)
  refine lv_lstore_n (lv' := [(2, .long (mL y1)), (0, .ref (ad 0)), (1, .int (mI x1))]) hx hb dX11_draw_17 rfl hl (by decide) rfl (fun ls hl => ?_)
  refine lv_aload_n hx hb dX11_draw_18 rfl (lv_at hl 1 rfl) ?_
  refine lv_lload_n hx hb dX11_draw_19 rfl (lv_at hl 0 rfl) ?_
  refine r_l2i X dX11_draw_20 ?_
  refine r_puti X hw sh_0 fd_11_12 fp_11_12 rfl rfl lf_X11_83 dX11_draw_21 (fun H locs hw => ?_)
  refine r_mem hf hw (fun σ2 hw hf => ?_)
  refine lv_iload_n hx hb dX11_draw_24 rfl (lv_at hl 2 rfl) ?_
  refine r_if_le (tgt := 40) X dX11_draw_25 (by decide) hf (fun hc hf => ?_) (fun hc hf => ?_)
  · refine lv_iconst (v := mI 0) hx hb dX11_draw_40 rfl ?_
    exact w_X11_draw_b41 X hw (lv_sub hl [1] rfl) hf
  · refine lv_lload_n hx hb dX11_draw_28 rfl (lv_at hl 0 rfl) ?_
    refine r_ldc2 (z := 64) (by decide) X lc_X11_283 dX11_draw_29 ?_
    refine r_ldiv X dX11_draw_32 hf (fun hf => ?_)
    refine lv_iload_n hx hb dX11_draw_33 rfl (lv_at hl 2 rfl) ?_
    refine r_i2l X dX11_draw_34 ?_
    refine r_lrem X dX11_draw_35 hf (fun hf => ?_)
    refine r_l2i X dX11_draw_36 ?_
    refine lv_goto (tgt := 41) hx hb dX11_draw_37 (by decide) ?_
    exact w_X11_draw_b41 X hw (lv_sub hl [1] rfl) hf
def g_X11_letCatCome_b26 (F : Nat)  (σ : mMem) : mRs := if mw 0 = 0 ∨ mw 0 = 1 then some (0, σ) else none
set_option maxRecDepth 100000 in
set_option maxHeartbeats 4000000 in
theorem w_X11_letCatCome_b26 {p : Program} {l : Launch} {e : Env} {s : State} {m : MethodId} {args : Array Value} {below : List Frame} {meth : Method} {c : Code} {D : va_G} {cy : Nat → ClassId} {ad : Nat → Nat} {bs : Nat} {F : Nat}  (X : mCx p m c cX11_letCatCome 1 s args RX11 meth D cy (some .boolean))  {r : Int} {σ' : mMem}    {σ : mMem} {H : Heap} {locs : List Loc} {ls : Array Slot} (hw : mWd D cy ad bs true mN σ s.heap H locs) (hl : lv_has ls 1 [(0, .ref (ad 0))]) (hf : g_X11_letCatCome_b26 F  σ = some (r, σ')) : mGi p l e 3 s m args below meth c D cy ad bs r σ' H locs (F0 m 26 ls []) := by
  obtain ⟨⟨hx, hb, -, -, -⟩, -⟩ := id X
  unfold g_X11_letCatCome_b26 at hf
  refine lv_iconst (v := mI 0) hx hb dX11_letCatCome_26 rfl ?_
  exact r_zret X hw dX11_letCatCome_27 hf
def g_X11_letCatCome (F : Nat) (σ : mMem) : mRs := mob (g_X11_draw F 100 σ) (fun r1 σ2 => if σ2 0 8 = 3 ∨ σ2 0 8 = 8 then if mw (σ2 (σ2 0 8).toNat 14) ≤ mw r1 then (g_X11_letCatCome_b26 F σ2) else (if σ2 0 8 = 3 ∨ σ2 0 8 = 8 then if ¬ mw (σ2 (σ2 0 8).toNat 11) = 0 then (if σ2 0 8 = 3 ∨ σ2 0 8 = 8 then mob (g_X11_draw F (σ2 (σ2 0 8).toNat 11) σ2) (fun r6 σ7 => mob (g_X10_turnBy F 20 r6 2 σ7) (fun r8 σ9 => if mw 1 = 0 ∨ mw 1 = 1 then some (1, σ9) else none)) else none) else (g_X11_letCatCome_b26 F σ2) else none) else none)
set_option maxRecDepth 100000 in
set_option maxHeartbeats 4000000 in
theorem c_X11_letCatCome (l : Launch) (D : va_G) (cy : Nat → ClassId) (ad : Nat → Nat) (bs : Nat) (F : Nat)   (σ : mMem) (r : Int) (σ' : mMem)  (hf : g_X11_letCatCome F  σ = some (r, σ')) : mCi l D cy ad bs yX11_letCatCome cX11_letCatCome 1 (some .boolean) 3 [.ref (ad 0)] σ r σ' := by
  refine mCi.of (lv := [(0, .ref (ad 0))]) km_X11_letCatCome.2.2.2.2.2 (Nat.le_of_ble_eq_true rfl) rfl (fun p e s m args below meth c H locs ls X hw hl => ?_)
  obtain ⟨⟨hx, hb, -, -, -⟩, -⟩ := id X
  unfold g_X11_letCatCome at hf
  refine lv_aload_n hx hb dX11_letCatCome_0 rfl (lv_at hl 0 rfl) ?_
  refine lv_bipush (v := mI 100) hx hb dX11_letCatCome_1 (by decide) ?_
  refine r_cvi (rest := []) [.int (mI 100)] X hw (fun ra σa h => c_X11_draw l D cy ad bs F 100 σ ra σa  h) sh_0 rfl (by decide) rfl km_X11_draw kv_X11_draw lm_X11_268 dX11_letCatCome_3 hl.1 rfl rfl (Nat.le_of_ble_eq_true rfl) ⟨by decide, by decide⟩ ⟨Nat.zero_le _, Nat.zero_le _⟩ hf (fun r1 σ2 _ hf H locs hw => ?_)
  refine lv_aload_n hx hb dX11_letCatCome_6 rfl (lv_at hl 0 rfl) ?_
  refine r_getp X hw sh_0 fd_11_8 rfl lf_X11_19 dX11_letCatCome_7 hf (fun hg3 hf => ?_)
  refine r_geti X hw (mPlan_z hg3).1 fd_5_14 rfl lf_X11_271 dX11_letCatCome_10 ?_
  refine r_icmp_ge (tgt := 26) X dX11_letCatCome_13 (by decide) hf (fun hc hf => ?_) (fun hc hf => ?_)
  · exact w_X11_letCatCome_b26 X hw (lv_sub hl [0] rfl) hf
  · refine lv_aload_n hx hb dX11_letCatCome_16 rfl (lv_at hl 0 rfl) ?_
    refine r_getp X hw sh_0 fd_11_8 rfl lf_X11_19 dX11_letCatCome_17 hf (fun hg4 hf => ?_)
    refine r_geti X hw (mPlan_z hg4).1 fd_5_11 rfl lf_X11_126 dX11_letCatCome_20 ?_
    refine r_if_ne (tgt := 28) X dX11_letCatCome_23 (by decide) hf (fun hc hf => ?_) (fun hc hf => ?_)
    · refine lv_aload_n hx hb dX11_letCatCome_28 rfl (lv_at hl 0 rfl) ?_
      refine r_getr 20 X hw sh_0 fd_11_2 rfl rfl lf_X11_40 dX11_letCatCome_29 ?_
      refine lv_aload_n hx hb dX11_letCatCome_32 rfl (lv_at hl 0 rfl) ?_
      refine lv_aload_n hx hb dX11_letCatCome_33 rfl (lv_at hl 0 rfl) ?_
      refine r_getp X hw sh_0 fd_11_8 rfl lf_X11_19 dX11_letCatCome_34 hf (fun hg5 hf => ?_)
      refine r_geti X hw (mPlan_z hg5).1 fd_5_11 rfl lf_X11_126 dX11_letCatCome_37 ?_
      refine r_cvi (rest := [.ref (ad 20)]) [.int (mI (σ2 (σ2 0 8).toNat 11))] X hw (fun ra σa h => c_X11_draw l D cy ad bs F (σ2 (σ2 0 8).toNat 11) σ2 ra σa  h) sh_0 rfl (by decide) rfl km_X11_draw kv_X11_draw lm_X11_268 dX11_letCatCome_40 hl.1 rfl rfl (Nat.le_of_ble_eq_true rfl) ⟨by decide, by decide⟩ ⟨Nat.zero_le _, Nat.zero_le _⟩ hf (fun r6 σ7 _ hf H locs hw => ?_)
      refine lv_iconst (v := mI 2) hx hb dX11_letCatCome_43 rfl ?_
      refine r_cvv (rest := []) [.int (mI r6), .int (mI 2)] X hw (fun ra σa h => c_X10_turnBy l D cy ad bs F 20 r6 2 σ7 ra σa sh_w20 h) sh_20 rfl (by decide) rfl km_X10_turnBy kv_X10_turnBy lm_X11_274 dX11_letCatCome_44 hl.1 rfl rfl (Nat.le_of_ble_eq_true rfl) ⟨by decide, by decide⟩ ⟨Nat.zero_le _, Nat.zero_le _⟩ hf (fun r8 σ9 _ hf H locs hw => ?_)
      refine lv_iconst (v := mI 1) hx hb dX11_letCatCome_47 rfl ?_
      exact r_zret X hw dX11_letCatCome_48 hf
    · exact w_X11_letCatCome_b26 X hw (lv_sub hl [0] rfl) hf
def g_X11_chance_b53 (F : Nat) (k35 : Int → Int → Int → mMem → mRs) (x1 x3 t0 t1 : Int) (σ : mMem) : mRs := mlet (t0 + t1) (fun y209 => mob (g_X11_passStep F σ) (fun r210 σ211 => k35 x1 y209 (x3 + 1) σ211))
set_option maxRecDepth 100000 in
set_option maxHeartbeats 4000000 in
theorem w_X11_chance_b53 {p : Program} {l : Launch} {e : Env} {s : State} {m : MethodId} {args : Array Value} {below : List Frame} {meth : Method} {c : Code} {D : va_G} {cy : Nat → ClassId} {ad : Nat → Nat} {bs : Nat} {F : Nat}  (X : mCx p m c cX11_chance 4 s args RX11 meth D cy (some .int))  {r : Int} {σ' : mMem} {k35 : Int → Int → Int → mMem → mRs} (hk35 : ∀ (x1 x2 x3 : Int) (σ : mMem) (H : Heap) (locs : List Loc) (ls : Array Slot), mWd D cy ad bs true mN σ s.heap H locs → lv_has ls 4 [(0, .ref (ad 0)), (1, .int (mI x1)), (2, .int (mI x2)), (3, .int (mI x3))] → k35 x1 x2 x3 σ = some (r, σ') → mGi p l e 7 s m args below meth c D cy ad bs r σ' H locs (F0 m 35 ls [])) {x1 x3 t0 t1 : Int} {σ : mMem} {H : Heap} {locs : List Loc} {ls : Array Slot} (hw : mWd D cy ad bs true mN σ s.heap H locs) (hl : lv_has ls 4 [(0, .ref (ad 0)), (1, .int (mI x1)), (3, .int (mI x3))]) (hf : g_X11_chance_b53 F k35 x1 x3 t0 t1 σ = some (r, σ')) : mGi p l e 7 s m args below meth c D cy ad bs r σ' H locs (F0 m 53 ls [.int (mI t1), .int (mI t0)]) := by
  obtain ⟨⟨hx, hb, -, -, -⟩, -⟩ := id X
  unfold g_X11_chance_b53 at hf
  refine r_iadd X dX11_chance_53 ?_
  refine r_leti hf (fun y209 hf => ?_)
  refine lv_istore_n (lv' := [(2, .int (mI y209)), (0, .ref (ad 0)), (1, .int (mI x1)), (3, .int (mI x3))]) hx hb dX11_chance_54 rfl hl (by decide) rfl (fun ls hl => ?_)
  refine lv_aload_n hx hb dX11_chance_55 rfl (lv_at hl 1 rfl) ?_
  refine r_cvi (rest := []) [] X hw (fun ra σa h => c_X11_passStep l D cy ad bs F σ ra σa  h) sh_0 rfl (by decide) rfl km_X11_passStep kv_X11_passStep lm_X11_232 dX11_chance_56 hl.1 rfl rfl (Nat.le_of_ble_eq_true rfl) ⟨by decide, by decide⟩ ⟨Nat.zero_le _, Nat.zero_le _⟩ hf (fun r210 σ211 _ hf H locs hw => ?_)
  refine lv_pop hx hb dX11_chance_59 rfl ?_
  refine lv_iinc (v := mI (x3 + 1)) (lv' := [(3, .int (mI (x3 + 1))), (2, .int (mI y209)), (0, .ref (ad 0)), (1, .int (mI x1))]) hx hb dX11_chance_60 hl (k := 3) rfl (mI_add _ _) (by decide) rfl (fun ls hl => ?_)
  refine lv_goto (tgt := 35) hx hb dX11_chance_63 (by decide) ?_
  exact hk35 x1 y209 (x3 + 1) σ211 _ _ _ hw (lv_sub hl [2, 3, 1, 0] rfl) hf
def g_X11_chance_h35 (F : Nat)  : Nat → Int → Int → Int → mMem → mRs
  | 0, _, _, _, _ => none
  | n + 1, x1, x2, x3, σ => if mw x1 ≤ mw x3 then (some (x2, σ)) else (mob (g_X11_letCatCome F σ) (fun r107 σ108 => if mw r107 = 0 then (g_X11_chance_b53 F (g_X11_chance_h35 F n) x1 x3 x2 0 σ108) else (g_X11_chance_b53 F (g_X11_chance_h35 F n) x1 x3 x2 1 σ108)))
set_option maxRecDepth 100000 in
set_option maxHeartbeats 4000000 in
theorem w_X11_chance_h35 {p : Program} {l : Launch} {e : Env} {s : State} {m : MethodId} {args : Array Value} {below : List Frame} {meth : Method} {c : Code} {D : va_G} {cy : Nat → ClassId} {ad : Nat → Nat} {bs : Nat} {F : Nat}  (X : mCx p m c cX11_chance 4 s args RX11 meth D cy (some .int))  {r : Int} {σ' : mMem}   (n : Nat) : ∀ {x1 x2 x3 : Int} {σ : mMem} {H : Heap} {locs : List Loc} {ls : Array Slot} (_ : mWd D cy ad bs true mN σ s.heap H locs) (_ : lv_has ls 4 [(0, .ref (ad 0)), (1, .int (mI x1)), (2, .int (mI x2)), (3, .int (mI x3))]) (_ : g_X11_chance_h35 F n x1 x2 x3 σ = some (r, σ')), mGi p l e 7 s m args below meth c D cy ad bs r σ' H locs (F0 m 35 ls []) := by
  obtain ⟨⟨hx, hb, -, -, -⟩, -⟩ := id X
  induction n with
  | zero =>
    intro x1 x2 x3 σ H locs ls hw hl hf
    unfold g_X11_chance_h35 at hf
    cases hf
  | succ n ih =>
    have hk35 : ∀ (x1 x2 x3 : Int) (σ : mMem) (H : Heap) (locs : List Loc) (ls : Array Slot), mWd D cy ad bs true mN σ s.heap H locs → lv_has ls 4 [(0, .ref (ad 0)), (1, .int (mI x1)), (2, .int (mI x2)), (3, .int (mI x3))] → g_X11_chance_h35 F n x1 x2 x3 σ = some (r, σ') → mGi p l e 7 s m args below meth c D cy ad bs r σ' H locs (F0 m 35 ls []) := fun x1 x2 x3 σ H locs ls hw hl hf => ih hw hl hf
    intro x1 x2 x3 σ H locs ls hw hl hf
    unfold g_X11_chance_h35 at hf
    refine lv_iload_n hx hb dX11_chance_35 rfl (lv_at hl 3 rfl) ?_
    refine lv_iload_n hx hb dX11_chance_36 rfl (lv_at hl 1 rfl) ?_
    refine r_icmp_ge (tgt := 66) X dX11_chance_37 (by decide) hf (fun hc hf => ?_) (fun hc hf => ?_)
    · refine lv_iload_n hx hb dX11_chance_66 rfl (lv_at hl 2 rfl) ?_
      exact r_iret X hw dX11_chance_67 hf
    · refine lv_iload_n hx hb dX11_chance_40 rfl (lv_at hl 2 rfl) ?_
      refine lv_aload_n hx hb dX11_chance_41 rfl (lv_at hl 0 rfl) ?_
      refine r_cvi (rest := [.int (mI x2)]) [] X hw (fun ra σa h => c_X11_letCatCome l D cy ad bs F σ ra σa  h) sh_0 rfl (by decide) rfl km_X11_letCatCome kv_X11_letCatCome lm_X11_235 dX11_chance_42 hl.1 rfl rfl (Nat.le_of_ble_eq_true rfl) ⟨by decide, by decide⟩ ⟨Nat.zero_le _, Nat.zero_le _⟩ hf (fun r107 σ108 _ hf H locs hw => ?_)
      refine r_if_eq (tgt := 52) X dX11_chance_45 (by decide) hf (fun hc hf => ?_) (fun hc hf => ?_)
      · refine lv_iconst (v := mI 0) hx hb dX11_chance_52 rfl ?_
        exact w_X11_chance_b53 X hk35 hw (lv_sub hl [0, 1, 3] rfl) hf
      · refine lv_iconst (v := mI 1) hx hb dX11_chance_48 rfl ?_
        refine lv_goto (tgt := 53) hx hb dX11_chance_49 (by decide) ?_
        exact w_X11_chance_b53 X hk35 hw (lv_sub hl [0, 1, 3] rfl) hf
def g_X11_chance (F : Nat) (x1 : Int) (σ : mMem) : mRs := mob (g_X10_mayPass F 20 x1 1 100 σ) (fun r1 σ2 => if ¬ mw r1 = 0 then (mob (g_X3_remember F 20 σ2) (fun r3 σ4 => g_X11_chance_h35 F F x1 0 0 σ4)) else (mob (g_X11_refuse F 2 σ2) (fun r5 σ6 => some (r5, σ6))))
set_option maxRecDepth 100000 in
set_option maxHeartbeats 4000000 in
theorem c_X11_chance (l : Launch) (D : va_G) (cy : Nat → ClassId) (ad : Nat → Nat) (bs : Nat) (F : Nat)  (x1 : Int) (σ : mMem) (r : Int) (σ' : mMem)  (hf : g_X11_chance F x1 σ = some (r, σ')) : mCi l D cy ad bs yX11_chance cX11_chance 4 (some .int) 7 [.ref (ad 0), .int (mI x1)] σ r σ' := by
  refine mCi.of (lv := [(0, .ref (ad 0)), (1, .int (mI x1))]) km_X11_chance.2.2.2.2.2 (Nat.le_of_ble_eq_true rfl) rfl (fun p e s m args below meth c H locs ls X hw hl => ?_)
  obtain ⟨⟨hx, hb, -, -, -⟩, -⟩ := id X
  unfold g_X11_chance at hf
  refine lv_aload_n hx hb dX11_chance_0 rfl (lv_at hl 0 rfl) ?_
  refine r_getr 20 X hw sh_0 fd_11_2 rfl rfl lf_X11_40 dX11_chance_1 ?_
  refine lv_iload_n hx hb dX11_chance_4 rfl (lv_at hl 1 rfl) ?_
  refine lv_iconst (v := mI 1) hx hb dX11_chance_5 rfl ?_
  refine lv_bipush (v := mI 100) hx hb dX11_chance_6 (by decide) ?_
  refine r_cvi (rest := []) [.int (mI x1), .int (mI 1), .int (mI 100)] X hw (fun ra σa h => c_X10_mayPass l D cy ad bs F 20 x1 1 100 σ ra σa sh_w20 h) sh_20 rfl (by decide) rfl km_X10_mayPass kv_X10_mayPass lm_X11_180 dX11_chance_8 hl.1 rfl rfl (Nat.le_of_ble_eq_true rfl) ⟨by decide, by decide⟩ ⟨Nat.zero_le _, Nat.zero_le _⟩ hf (fun r1 σ2 _ hf H locs hw => ?_)
  refine r_if_ne (tgt := 20) X dX11_chance_11 (by decide) hf (fun hc hf => ?_) (fun hc hf => ?_)
  · refine lv_aload_n hx hb dX11_chance_20 rfl (lv_at hl 0 rfl) ?_
    refine r_getr 54 X hw sh_0 fd_11_5 rfl rfl lf_X11_61 dX11_chance_21 ?_
    refine lv_aload_n hx hb dX11_chance_24 rfl (lv_at hl 0 rfl) ?_
    refine r_getr 20 X hw sh_0 fd_11_2 rfl rfl lf_X11_40 dX11_chance_25 ?_
    refine r_cvv (rest := []) [.ref (ad 20)] X hw (fun ra σa h => c_X3_remember l D cy ad bs F 20 σ2 ra σa sh_w20 h) sh_54 rfl (by decide) rfl km_X3_remember kv_X3_remember lm_X11_228 dX11_chance_28 hl.1 rfl rfl (Nat.le_of_ble_eq_true rfl) ⟨by decide, by decide⟩ ⟨Nat.zero_le _, Nat.zero_le _⟩ hf (fun r3 σ4 _ hf H locs hw => ?_)
    refine lv_iconst (v := mI 0) hx hb dX11_chance_31 rfl ?_
    refine lv_istore_n (lv' := [(2, .int (mI 0)), (0, .ref (ad 0)), (1, .int (mI x1))]) hx hb dX11_chance_32 rfl hl (by decide) rfl (fun ls hl => ?_)
    refine lv_iconst (v := mI 0) hx hb dX11_chance_33 rfl ?_
    refine lv_istore_n (lv' := [(3, .int (mI 0)), (2, .int (mI 0)), (0, .ref (ad 0)), (1, .int (mI x1))]) hx hb dX11_chance_34 rfl hl (by decide) rfl (fun ls hl => ?_)
    exact w_X11_chance_h35 X _ hw (lv_sub hl [2, 3, 1, 0] rfl) hf
  · refine lv_aload_n hx hb dX11_chance_14 rfl (lv_at hl 0 rfl) ?_
    refine lv_iconst (v := mI 2) hx hb dX11_chance_15 rfl ?_
    refine r_cvi (rest := []) [.int (mI 2)] X hw (fun ra σa h => c_X11_refuse l D cy ad bs F 2 σ2 ra σa  h) sh_0 rfl (by decide) rfl km_X11_refuse kv_X11_refuse lm_X11_90 dX11_chance_16 hl.1 rfl rfl (Nat.le_of_ble_eq_true rfl) ⟨by decide, by decide⟩ ⟨Nat.zero_le _, Nat.zero_le _⟩ hf (fun r5 σ6 _ hf H locs hw => ?_)
    exact r_iret X hw dX11_chance_19 hf
