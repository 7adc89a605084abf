def g_X10_copyFrom (F : Nat) (o : Nat) (w1 : Nat) (σ : mMem) : mRs := if σ w1 3 = 3 ∨ σ w1 3 = 8 then mlm (mup σ o 3 (((σ w1 3).toNat : Nat) : Int)) (fun σ2 => mlm (mup σ2 o 4 (σ2 w1 4)) (fun σ3 => mlm (mup σ3 o 5 (σ3 w1 5)) (fun σ4 => if 0 ≤ mw 0 ∧ 0 ≤ mw 0 ∧ 0 ≤ mw 60 ∧ mw 0 + mw 60 ≤ (60 : Int) ∧ mw 0 + mw 60 ≤ (60 : Int) then mlm (mupo σ4 (o + 1) (mcpy (σ4 (w1 + 1)) (σ4 (o + 1)) (mw 0).toNat (mw 0).toNat (mw 60).toNat)) (fun σ5 => some (0, σ5)) else none))) else none
set_option maxRecDepth 100000 in
set_option maxHeartbeats 4000000 in
theorem c_X10_copyFrom (l : Launch) (D : va_G) (cy : Nat → ClassId) (ad : Nat → Nat) (bs : Nat) (F : Nat) (o : Nat) (w1 : Nat)  (σ : mMem) (r : Int) (σ' : mMem) (ho : mWorld o) (hw1 : mWorld w1) (hf : g_X10_copyFrom F o w1 σ = some (r, σ')) : mCv l D cy ad bs yX10_copyFrom cX10_copyFrom 2 none 1 [.ref (ad o), .ref (ad w1)] σ σ' := by
  refine mCv.of (lv := [(0, .ref (ad o)), (1, .ref (ad w1))]) km_X10_copyFrom.2.2.2.2.2 (Nat.le_of_ble_eq_true rfl) rfl (fun p e s m args below meth c H locs ls X hw hl => ?_)
  obtain ⟨⟨hx, hb, -, -, -⟩, -⟩ := id X
  unfold g_X10_copyFrom at hf
  refine lv_aload_n hx hb dX10_copyFrom_0 rfl (lv_at hl 0 rfl) ?_
  refine lv_aload_n hx hb dX10_copyFrom_1 rfl (lv_at hl 1 rfl) ?_
  refine r_getp X hw hw1.1 fd_10_3 rfl lf_X10_28 dX10_copyFrom_2 hf (fun hg1 hf => ?_)
  refine r_putd X hw ho.1 fd_10_3 fp_10_3 rfl rfl lf_X10_28 dX10_copyFrom_5 (fun H locs hw => ?_)
  refine r_mem hf hw (fun σ2 hw hf => ?_)
  refine lv_aload_n hx hb dX10_copyFrom_8 rfl (lv_at hl 0 rfl) ?_
  refine lv_aload_n hx hb dX10_copyFrom_9 rfl (lv_at hl 1 rfl) ?_
  refine r_geti X hw hw1.1 fd_10_4 rfl lf_X10_32 dX10_copyFrom_10 ?_
  refine r_puti X hw ho.1 fd_10_4 fp_10_4 rfl rfl lf_X10_32 dX10_copyFrom_13 (fun H locs hw => ?_)
  refine r_mem hf hw (fun σ3 hw hf => ?_)
  refine lv_aload_n hx hb dX10_copyFrom_16 rfl (lv_at hl 0 rfl) ?_
  refine lv_aload_n hx hb dX10_copyFrom_17 rfl (lv_at hl 1 rfl) ?_
  refine r_geti X hw hw1.1 fd_10_5 rfl lf_X10_36 dX10_copyFrom_18 ?_
  refine r_puti X hw ho.1 fd_10_5 fp_10_5 rfl rfl lf_X10_36 dX10_copyFrom_21 (fun H locs hw => ?_)
  refine r_mem hf hw (fun σ4 hw hf => ?_)
  refine lv_aload_n hx hb dX10_copyFrom_24 rfl (lv_at hl 1 rfl) ?_
  refine r_getr (w1 + 1) X hw hw1.1 fd_10_0 rfl rfl lf_X10_13 dX10_copyFrom_25 ?_
  refine lv_iconst (v := mI 0) hx hb dX10_copyFrom_28 rfl ?_
  refine lv_aload_n hx hb dX10_copyFrom_29 rfl (lv_at hl 0 rfl) ?_
  refine r_getr (o + 1) X hw ho.1 fd_10_0 rfl rfl lf_X10_13 dX10_copyFrom_30 ?_
  refine lv_iconst (v := mI 0) hx hb dX10_copyFrom_33 rfl ?_
  refine lv_bipush (v := mI 60) hx hb dX10_copyFrom_34 (by decide) ?_
  refine r_copy (rest := []) (60 : Int) (60 : Int) rfl rfl X hw hw1.2.1 ho.2.1 lm_X10_49 ka_nat ka_stat ka_ini hl.1 (by decide) (Nat.le_of_ble_eq_true rfl) dX10_copyFrom_36 hf (fun hf H locs hw => ?_)
  refine r_mem hf hw (fun σ5 hw hf => ?_)
  exact r_vret X hw dX10_copyFrom_39 hf
def g_X10_of_b27 (F : Nat) (o : Nat)  (t0 : Int) (σ : mMem) : mRs := some (t0, σ)
set_option maxRecDepth 100000 in
set_option maxHeartbeats 4000000 in
theorem w_X10_of_b27 {p : Program} {l : Launch} {e : Env} {s : State} {m : MethodId} {args : Array Value} {below : List Frame} {meth : Method} {c : Code} {D : va_G} {cy : Nat → ClassId} {ad : Nat → Nat} {bs : Nat} {F : Nat} {o : Nat} (X : mCx p m c cX10_of 4 s args RX10 meth D cy (some .int)) (ho : mWorld o) {r : Int} {σ' : mMem}   {t0 : Int} {σ : mMem} {H : Heap} {locs : List Loc} {ls : Array Slot} (hw : mWd D cy ad bs true mN σ s.heap H locs) (hl : lv_has ls 4 [(0, .ref (ad o))]) (hf : g_X10_of_b27 F o t0 σ = some (r, σ')) : mGi p l e 1 s m args below meth c D cy ad bs r σ' H locs (F0 m 27 ls [.int (mI t0)]) := by
  obtain ⟨⟨hx, hb, -, -, -⟩, -⟩ := id X
  unfold g_X10_of_b27 at hf
  exact r_iret X hw dX10_of_27 hf
def g_X10_of_b26 (F : Nat) (o : Nat)  (σ : mMem) : mRs := g_X10_of_b27 F o (-1) σ
set_option maxRecDepth 100000 in
set_option maxHeartbeats 4000000 in
theorem w_X10_of_b26 {p : Program} {l : Launch} {e : Env} {s : State} {m : MethodId} {args : Array Value} {below : List Frame} {meth : Method} {c : Code} {D : va_G} {cy : Nat → ClassId} {ad : Nat → Nat} {bs : Nat} {F : Nat} {o : Nat} (X : mCx p m c cX10_of 4 s args RX10 meth D cy (some .int)) (ho : mWorld o) {r : Int} {σ' : mMem}    {σ : mMem} {H : Heap} {locs : List Loc} {ls : Array Slot} (hw : mWd D cy ad bs true mN σ s.heap H locs) (hl : lv_has ls 4 [(0, .ref (ad o))]) (hf : g_X10_of_b26 F o  σ = some (r, σ')) : mGi p l e 1 s m args below meth c D cy ad bs r σ' H locs (F0 m 26 ls []) := by
  obtain ⟨⟨hx, hb, -, -, -⟩, -⟩ := id X
  unfold g_X10_of_b26 at hf
  refine lv_iconst (v := mI (-1)) hx hb dX10_of_26 rfl ?_
  exact w_X10_of_b27 X ho hw (lv_sub hl [0] rfl) hf
def g_X10_of (F : Nat) (o : Nat) (x1 x2 : Int) (σ : mMem) : mRs := mlet ((x1 * 10) + x2) (fun y1 => if mw y1 < 0 then (g_X10_of_b26 F o σ) else (if mw 60 ≤ mw y1 then (g_X10_of_b26 F o σ) else (if 0 ≤ mw y1 ∧ mw y1 < (60 : Int) then g_X10_of_b27 F o (σ (o + 1) (mw y1).toNat) σ else none)))
set_option maxRecDepth 100000 in
set_option maxHeartbeats 4000000 in
theorem c_X10_of (l : Launch) (D : va_G) (cy : Nat → ClassId) (ad : Nat → Nat) (bs : Nat) (F : Nat) (o : Nat) (x1 x2 : Int) (σ : mMem) (r : Int) (σ' : mMem) (ho : mWorld o) (hf : g_X10_of F o x1 x2 σ = some (r, σ')) : mCi l D cy ad bs yX10_of cX10_of 4 (some .int) 1 [.ref (ad o), .int (mI x1), .int (mI x2)] σ r σ' := by
  refine mCi.of (lv := [(0, .ref (ad o)), (1, .int (mI x1)), (2, .int (mI x2))]) km_X10_of.2.2.2.2.2 (Nat.le_of_ble_eq_true rfl) rfl (fun p e s m args below meth c H locs ls X hw hl => ?_)
  obtain ⟨⟨hx, hb, -, -, -⟩, -⟩ := id X
  unfold g_X10_of at hf
  refine lv_iload_n hx hb dX10_of_0 rfl (lv_at hl 1 rfl) ?_
  refine lv_bipush (v := mI 10) hx hb dX10_of_1 (by decide) ?_
  refine r_imul X dX10_of_3 ?_
  refine lv_iload_n hx hb dX10_of_4 rfl (lv_at hl 2 rfl) ?_
  refine r_iadd X dX10_of_5 ?_
  refine r_leti hf (fun y1 hf => ?_)
  refine lv_istore_n (lv' := [(3, .int (mI y1)), (0, .ref (ad o)), (1, .int (mI x1)), (2, .int (mI x2))]) hx hb dX10_of_6 rfl hl (by decide) rfl (fun ls hl => ?_)
  refine lv_iload_n hx hb dX10_of_7 rfl (lv_at hl 0 rfl) ?_
  refine r_if_lt (tgt := 26) X dX10_of_8 (by decide) hf (fun hc hf => ?_) (fun hc hf => ?_)
  · exact w_X10_of_b26 X ho hw (lv_sub hl [1] rfl) hf
  · refine lv_iload_n hx hb dX10_of_11 rfl (lv_at hl 0 rfl) ?_
    refine lv_bipush (v := mI 60) hx hb dX10_of_12 (by decide) ?_
    refine r_icmp_ge (tgt := 26) X dX10_of_14 (by decide) hf (fun hc hf => ?_) (fun hc hf => ?_)
    · exact w_X10_of_b26 X ho hw (lv_sub hl [1] rfl) hf
    · refine lv_aload_n hx hb dX10_of_17 rfl (lv_at hl 1 rfl) ?_
      refine r_getr (o + 1) X hw ho.1 fd_10_0 rfl rfl lf_X10_13 dX10_of_18 ?_
      refine lv_iload_n hx hb dX10_of_21 rfl (lv_at hl 0 rfl) ?_
      refine r_iald (60 : Int) rfl X hw ho.2.1 dX10_of_22 hf (fun hf => ?_)
      refine lv_goto (tgt := 27) hx hb dX10_of_23 (by decide) ?_
      exact w_X10_of_b27 X ho hw (lv_sub hl [1] rfl) hf
def g_J9_min_7cf53_b10 (F : Nat)  (t0 : Int) (σ : mMem) : mRs := some (t0, σ)
set_option maxRecDepth 100000 in
set_option maxHeartbeats 4000000 in
theorem w_J9_min_7cf53_b10 {p : Program} {l : Launch} {e : Env} {s : State} {m : MethodId} {args : Array Value} {below : List Frame} {meth : Method} {c : Code} {D : va_G} {cy : Nat → ClassId} {ad : Nat → Nat} {bs : Nat} {F : Nat}  (X : mCx p m c cJ9_min_7cf53 2 s args RJ9 meth D cy (some .int))  {r : Int} {σ' : mMem}   {t0 : Int} {σ : mMem} {H : Heap} {locs : List Loc} {ls : Array Slot} (hw : mWd D cy ad bs true mN σ s.heap H locs) (hl : lv_has ls 2 []) (hf : g_J9_min_7cf53_b10 F t0 σ = some (r, σ')) : mGi p l e 1 s m args below meth c D cy ad bs r σ' H locs (F0 m 10 ls [.int (mI t0)]) := by
  obtain ⟨⟨hx, hb, -, -, -⟩, -⟩ := id X
  unfold g_J9_min_7cf53_b10 at hf
  exact r_iret X hw dJ9_min_7cf53_10 hf
def g_J9_min_7cf53 (F : Nat) (x0 x1 : Int) (σ : mMem) : mRs := if mw x1 < mw x0 then (g_J9_min_7cf53_b10 F x1 σ) else (g_J9_min_7cf53_b10 F x0 σ)
set_option maxRecDepth 100000 in
set_option maxHeartbeats 4000000 in
theorem c_J9_min_7cf53 (l : Launch) (D : va_G) (cy : Nat → ClassId) (ad : Nat → Nat) (bs : Nat) (F : Nat)  (x0 x1 : Int) (σ : mMem) (r : Int) (σ' : mMem)  (hf : g_J9_min_7cf53 F x0 x1 σ = some (r, σ')) : mCi l D cy ad bs yJ9_min_7cf53 cJ9_min_7cf53 2 (some .int) 1 [.int (mI x0), .int (mI x1)] σ r σ' := by
  refine mCi.of (lv := [(0, .int (mI x0)), (1, .int (mI x1))]) km_J9_min_7cf53.2.2.2.2.2 (Nat.le_of_ble_eq_true rfl) rfl (fun p e s m args below meth c H locs ls X hw hl => ?_)
  obtain ⟨⟨hx, hb, -, -, -⟩, -⟩ := id X
  unfold g_J9_min_7cf53 at hf
  refine lv_iload_n hx hb dJ9_min_7cf53_0 rfl (lv_at hl 0 rfl) ?_
  refine lv_iload_n hx hb dJ9_min_7cf53_1 rfl (lv_at hl 1 rfl) ?_
  refine r_icmp_gt (tgt := 9) X dJ9_min_7cf53_2 (by decide) hf (fun hc hf => ?_) (fun hc hf => ?_)
  · refine lv_iload_n hx hb dJ9_min_7cf53_9 rfl (lv_at hl 1 rfl) ?_
    exact w_J9_min_7cf53_b10 X hw (lv_sub hl [] rfl) hf
  · refine lv_iload_n hx hb dJ9_min_7cf53_5 rfl (lv_at hl 0 rfl) ?_
    refine lv_goto (tgt := 10) hx hb dJ9_min_7cf53_6 (by decide) ?_
    exact w_J9_min_7cf53_b10 X hw (lv_sub hl [] rfl) hf
def g_X10_boxIn_b61 (F : Nat) (a0 n0 : Nat)  (σ : mMem) : mRs := some ((-1), σ)
set_option maxRecDepth 100000 in
set_option maxHeartbeats 4000000 in
theorem w_X10_boxIn_b61 {p : Program} {l : Launch} {e : Env} {s : State} {m : MethodId} {args : Array Value} {below : List Frame} {meth : Method} {c : Code} {D : va_G} {cy : Nat → ClassId} {ad : Nat → Nat} {bs : Nat} {F : Nat} {a0 n0 : Nat} (X : mCx p m c cX10_boxIn 6 s args RX10 meth D cy (some .int)) (ha0 : mSh a0 = (13, n0)) {r : Int} {σ' : mMem}    {σ : mMem} {H : Heap} {locs : List Loc} {ls : Array Slot} (hw : mWd D cy ad bs true mN σ s.heap H locs) (hl : lv_has ls 6 [(0, .ref (ad a0))]) (hf : g_X10_boxIn_b61 F a0 n0  σ = some (r, σ')) : mGi p l e 1 s m args below meth c D cy ad bs r σ' H locs (F0 m 61 ls []) := by
  obtain ⟨⟨hx, hb, -, -, -⟩, -⟩ := id X
  unfold g_X10_boxIn_b61 at hf
  refine lv_iconst (v := mI (-1)) hx hb dX10_boxIn_61 rfl ?_
  exact r_iret X hw dX10_boxIn_62 hf
def g_X10_boxIn_b55 (F : Nat) (a0 n0 : Nat) (k3 : Int → Int → Int → Int → mMem → mRs) (x1 x2 x3 x4 : Int) (σ : mMem) : mRs := k3 x1 x2 x3 (x4 + 1) σ
set_option maxRecDepth 100000 in
set_option maxHeartbeats 4000000 in
theorem w_X10_boxIn_b55 {p : Program} {l : Launch} {e : Env} {s : State} {m : MethodId} {args : Array Value} {below : List Frame} {meth : Method} {c : Code} {D : va_G} {cy : Nat → ClassId} {ad : Nat → Nat} {bs : Nat} {F : Nat} {a0 n0 : Nat} (X : mCx p m c cX10_boxIn 6 s args RX10 meth D cy (some .int)) (ha0 : mSh a0 = (13, n0)) {r : Int} {σ' : mMem} {k3 : Int → Int → Int → Int → mMem → mRs} (hk3 : ∀ (x1 x2 x3 x4 : Int) (σ : mMem) (H : Heap) (locs : List Loc) (ls : Array Slot), mWd D cy ad bs true mN σ s.heap H locs → lv_has ls 6 [(0, .ref (ad a0)), (1, .int (mI x1)), (2, .int (mI x2)), (3, .int (mI x3)), (4, .int (mI x4))] → k3 x1 x2 x3 x4 σ = some (r, σ') → mGi p l e 1 s m args below meth c D cy ad bs r σ' H locs (F0 m 3 ls [])) {x1 x2 x3 x4 : Int} {σ : mMem} {H : Heap} {locs : List Loc} {ls : Array Slot} (hw : mWd D cy ad bs true mN σ s.heap H locs) (hl : lv_has ls 6 [(0, .ref (ad a0)), (1, .int (mI x1)), (2, .int (mI x2)), (3, .int (mI x3)), (4, .int (mI x4))]) (hf : g_X10_boxIn_b55 F a0 n0 k3 x1 x2 x3 x4 σ = some (r, σ')) : mGi p l e 1 s m args below meth c D cy ad bs r σ' H locs (F0 m 55 ls []) := by
  obtain ⟨⟨hx, hb, -, -, -⟩, -⟩ := id X
  unfold g_X10_boxIn_b55 at hf
  refine lv_iinc (v := mI (x4 + 1)) (lv' := [(4, .int (mI (x4 + 1))), (0, .ref (ad a0)), (1, .int (mI x1)), (2, .int (mI x2)), (3, .int (mI x3))]) hx hb dX10_boxIn_55 hl (k := 4) rfl (mI_add _ _) (by decide) rfl (fun ls hl => ?_)
  refine lv_goto (tgt := 3) hx hb dX10_boxIn_58 (by decide) ?_
  exact hk3 x1 x2 x3 (x4 + 1) σ _ _ _ hw (lv_sub hl [1, 2, 3, 4, 0] rfl) hf
def g_X10_boxIn_h3 (F : Nat) (a0 n0 : Nat)  : Nat → Int → Int → Int → Int → mMem → mRs
  | 0, _, _, _, _, _ => none
  | n + 1, x1, x2, x3, x4, σ => if mw x1 ≤ mw x4 then (g_X10_boxIn_b61 F a0 n0 σ) else (if mw 6 ≤ mw x4 then (g_X10_boxIn_b61 F a0 n0 σ) else (mlet (x4 * 10) (fun y101 => if mw (n0 : Int) ≤ mw (y101 + 1) then (g_X10_boxIn_b55 F a0 n0 (g_X10_boxIn_h3 F a0 n0 n) x1 x2 x3 x4 σ) else (if 0 ≤ mw (y101 + 0) ∧ mw (y101 + 0) < (n0 : Int) then if ¬ mw (σ a0 (mw (y101 + 0)).toNat) = mw x2 then (g_X10_boxIn_b55 F a0 n0 (g_X10_boxIn_h3 F a0 n0 n) x1 x2 x3 x4 σ) else (if 0 ≤ mw (y101 + 1) ∧ mw (y101 + 1) < (n0 : Int) then if ¬ mw (σ a0 (mw (y101 + 1)).toNat) = mw x3 then (g_X10_boxIn_b55 F a0 n0 (g_X10_boxIn_h3 F a0 n0 n) x1 x2 x3 x4 σ) else (some (x4, σ)) else none) else none))))
set_option maxRecDepth 100000 in
set_option maxHeartbeats 4000000 in
theorem w_X10_boxIn_h3 {p : Program} {l : Launch} {e : Env} {s : State} {m : MethodId} {args : Array Value} {below : List Frame} {meth : Method} {c : Code} {D : va_G} {cy : Nat → ClassId} {ad : Nat → Nat} {bs : Nat} {F : Nat} {a0 n0 : Nat} (X : mCx p m c cX10_boxIn 6 s args RX10 meth D cy (some .int)) (ha0 : mSh a0 = (13, n0)) {r : Int} {σ' : mMem}   (n : Nat) : ∀ {x1 x2 x3 x4 : Int} {σ : mMem} {H : Heap} {locs : List Loc} {ls : Array Slot} (_ : mWd D cy ad bs true mN σ s.heap H locs) (_ : lv_has ls 6 [(0, .ref (ad a0)), (1, .int (mI x1)), (2, .int (mI x2)), (3, .int (mI x3)), (4, .int (mI x4))]) (_ : g_X10_boxIn_h3 F a0 n0 n x1 x2 x3 x4 σ = some (r, σ')), mGi p l e 1 s m args below meth c D cy ad bs r σ' H locs (F0 m 3 ls []) := by
  obtain ⟨⟨hx, hb, -, -, -⟩, -⟩ := id X
  induction n with
  | zero =>
    intro x1 x2 x3 x4 σ H locs ls hw hl hf
    unfold g_X10_boxIn_h3 at hf
    cases hf
  | succ n ih =>
    have hk3 : ∀ (x1 x2 x3 x4 : Int) (σ : mMem) (H : Heap) (locs : List Loc) (ls : Array Slot), mWd D cy ad bs true mN σ s.heap H locs → lv_has ls 6 [(0, .ref (ad a0)), (1, .int (mI x1)), (2, .int (mI x2)), (3, .int (mI x3)), (4, .int (mI x4))] → g_X10_boxIn_h3 F a0 n0 n x1 x2 x3 x4 σ = some (r, σ') → mGi p l e 1 s m args below meth c D cy ad bs r σ' H locs (F0 m 3 ls []) := fun x1 x2 x3 x4 σ H locs ls hw hl hf => ih hw hl hf
    intro x1 x2 x3 x4 σ H locs ls hw hl hf
    unfold g_X10_boxIn_h3 at hf
    refine lv_iload hx hb dX10_boxIn_3 (lv_at hl 4 rfl) ?_
    refine lv_iload_n hx hb dX10_boxIn_5 rfl (lv_at hl 1 rfl) ?_
    refine r_icmp_ge (tgt := 61) X dX10_boxIn_6 (by decide) hf (fun hc hf => ?_) (fun hc hf => ?_)
    · exact w_X10_boxIn_b61 X ha0 hw (lv_sub hl [0] rfl) hf
    · refine lv_iload hx hb dX10_boxIn_9 (lv_at hl 4 rfl) ?_
      refine lv_bipush (v := mI 6) hx hb dX10_boxIn_11 (by decide) ?_
      refine r_icmp_ge (tgt := 61) X dX10_boxIn_13 (by decide) hf (fun hc hf => ?_) (fun hc hf => ?_)
      · exact w_X10_boxIn_b61 X ha0 hw (lv_sub hl [0] rfl) hf
      · refine lv_iload hx hb dX10_boxIn_16 (lv_at hl 4 rfl) ?_
        refine lv_bipush (v := mI 10) hx hb dX10_boxIn_18 (by decide) ?_
        refine r_imul X dX10_boxIn_20 ?_
        refine r_leti hf (fun y101 hf => ?_)
        refine lv_istore (lv' := [(5, .int (mI y101)), (0, .ref (ad a0)), (1, .int (mI x1)), (2, .int (mI x2)), (3, .int (mI x3)), (4, .int (mI x4))]) hx hb dX10_boxIn_21 hl (by decide) rfl (fun ls hl => ?_)
        refine lv_iload hx hb dX10_boxIn_23 (lv_at hl 0 rfl) ?_
        refine lv_iconst (v := mI 1) hx hb dX10_boxIn_25 rfl ?_
        refine r_iadd X dX10_boxIn_26 ?_
        refine lv_aload_n hx hb dX10_boxIn_27 rfl (lv_at hl 1 rfl) ?_
        refine r_ileni (n0 : Int) rfl X hw ha0 dX10_boxIn_28 ?_
        refine r_icmp_ge (tgt := 55) X dX10_boxIn_29 (by decide) hf (fun hc hf => ?_) (fun hc hf => ?_)
        · exact w_X10_boxIn_b55 X ha0 hk3 hw (lv_sub hl [1, 2, 3, 4, 5] rfl) hf
        · refine lv_aload_n hx hb dX10_boxIn_32 rfl (lv_at hl 1 rfl) ?_
          refine lv_iload hx hb dX10_boxIn_33 (lv_at hl 0 rfl) ?_
          refine lv_iconst (v := mI 0) hx hb dX10_boxIn_35 rfl ?_
          refine r_iadd X dX10_boxIn_36 ?_
          refine r_iald (n0 : Int) rfl X hw ha0 dX10_boxIn_37 hf (fun hf => ?_)
          refine lv_iload_n hx hb dX10_boxIn_38 rfl (lv_at hl 3 rfl) ?_
          refine r_icmp_ne (tgt := 55) X dX10_boxIn_39 (by decide) hf (fun hc hf => ?_) (fun hc hf => ?_)
          · exact w_X10_boxIn_b55 X ha0 hk3 hw (lv_sub hl [1, 2, 3, 4, 5] rfl) hf
          · refine lv_aload_n hx hb dX10_boxIn_42 rfl (lv_at hl 1 rfl) ?_
            refine lv_iload hx hb dX10_boxIn_43 (lv_at hl 0 rfl) ?_
            refine lv_iconst (v := mI 1) hx hb dX10_boxIn_45 rfl ?_
            refine r_iadd X dX10_boxIn_46 ?_
            refine r_iald (n0 : Int) rfl X hw ha0 dX10_boxIn_47 hf (fun hf => ?_)
            refine lv_iload_n hx hb dX10_boxIn_48 rfl (lv_at hl 4 rfl) ?_
            refine r_icmp_ne (tgt := 55) X dX10_boxIn_49 (by decide) hf (fun hc hf => ?_) (fun hc hf => ?_)
            · exact w_X10_boxIn_b55 X ha0 hk3 hw (lv_sub hl [1, 2, 3, 4, 5] rfl) hf
            · refine lv_iload hx hb dX10_boxIn_52 (lv_at hl 5 rfl) ?_
              exact r_iret X hw dX10_boxIn_54 hf
def g_X10_boxIn (F : Nat) (a0 n0 : Nat) (x1 x2 x3 : Int) (σ : mMem) : mRs := g_X10_boxIn_h3 F a0 n0 F x1 x2 x3 0 σ
set_option maxRecDepth 100000 in
set_option maxHeartbeats 4000000 in
theorem c_X10_boxIn (l : Launch) (D : va_G) (cy : Nat → ClassId) (ad : Nat → Nat) (bs : Nat) (F : Nat) (a0 n0 : Nat) (x1 x2 x3 : Int) (σ : mMem) (r : Int) (σ' : mMem) (ha0 : mSh a0 = (13, n0)) (hf : g_X10_boxIn F a0 n0 x1 x2 x3 σ = some (r, σ')) : mCi l D cy ad bs yX10_boxIn cX10_boxIn 6 (some .int) 1 [.ref (ad a0), .int (mI x1), .int (mI x2), .int (mI x3)] σ r σ' := by
  refine mCi.of (lv := [(0, .ref (ad a0)), (1, .int (mI x1)), (2, .int (mI x2)), (3, .int (mI x3))]) km_X10_boxIn.2.2.2.2.2 (Nat.le_of_ble_eq_true rfl) rfl (fun p e s m args below meth c H locs ls X hw hl => ?_)
  obtain ⟨⟨hx, hb, -, -, -⟩, -⟩ := id X
  unfold g_X10_boxIn at hf
  refine lv_iconst (v := mI 0) hx hb dX10_boxIn_0 rfl ?_
  refine lv_istore (lv' := [(4, .int (mI 0)), (0, .ref (ad a0)), (1, .int (mI x1)), (2, .int (mI x2)), (3, .int (mI x3))]) hx hb dX10_boxIn_1 hl (by decide) rfl (fun ls hl => ?_)
  exact w_X10_boxIn_h3 X ha0 _ hw (lv_sub hl [1, 2, 3, 4, 0] rfl) hf
def g_X10_boxOn (F : Nat) (o : Nat) (x1 x2 : Int) (σ : mMem) : mRs := if σ o 3 = 3 ∨ σ o 3 = 8 then mob (g_X10_boxIn F (o + 1) 60 (σ (σ o 3).toNat 11) x1 x2 σ) (fun r2 σ3 => some (r2, σ3)) else none
set_option maxRecDepth 100000 in
set_option maxHeartbeats 4000000 in
theorem c_X10_boxOn (l : Launch) (D : va_G) (cy : Nat → ClassId) (ad : Nat → Nat) (bs : Nat) (F : Nat) (o : Nat) (x1 x2 : Int) (σ : mMem) (r : Int) (σ' : mMem) (ho : mWorld o) (hf : g_X10_boxOn F o x1 x2 σ = some (r, σ')) : mCi l D cy ad bs yX10_boxOn cX10_boxOn 3 (some .int) 2 [.ref (ad o), .int (mI x1), .int (mI x2)] σ r σ' := by
  refine mCi.of (lv := [(0, .ref (ad o)), (1, .int (mI x1)), (2, .int (mI x2))]) km_X10_boxOn.2.2.2.2.2 (Nat.le_of_ble_eq_true rfl) rfl (fun p e s m args below meth c H locs ls X hw hl => ?_)
  obtain ⟨⟨hx, hb, -, -, -⟩, -⟩ := id X
  unfold g_X10_boxOn at hf
  refine lv_aload_n hx hb dX10_boxOn_0 rfl (lv_at hl 0 rfl) ?_
  refine r_getr (o + 1) X hw ho.1 fd_10_0 rfl rfl lf_X10_13 dX10_boxOn_1 ?_
  refine lv_aload_n hx hb dX10_boxOn_4 rfl (lv_at hl 0 rfl) ?_
  refine r_getp X hw ho.1 fd_10_3 rfl lf_X10_28 dX10_boxOn_5 hf (fun hg1 hf => ?_)
  refine r_geti X hw (mPlan_z hg1).1 fd_5_11 rfl lf_X10_55 dX10_boxOn_8 ?_
  refine lv_iload_n hx hb dX10_boxOn_11 rfl (lv_at hl 1 rfl) ?_
  refine lv_iload_n hx hb dX10_boxOn_12 rfl (lv_at hl 2 rfl) ?_
  refine r_csi (rest := []) [.ref (ad (o + 1)), .int (mI (σ (σ o 3).toNat 11)), .int (mI x1), .int (mI x2)] X hw (fun ra σa h => c_X10_boxIn l D cy ad bs F (o + 1) 60 (σ (σ o 3).toNat 11) x1 x2 σ ra σa ho.2.1 h) km_X10_boxIn ks_X10_boxIn lm_X10_78 dX10_boxOn_13 hl.1 rfl rfl (Nat.le_of_ble_eq_true rfl) ⟨by decide, by decide⟩ ⟨Nat.zero_le _, Nat.zero_le _⟩ hf (fun r2 σ3 _ hf H locs hw => ?_)
  exact r_iret X hw dX10_boxOn_16 hf
def g_X10_columnStep_b17 (F : Nat)  (t0 : Int) (σ : mMem) : mRs := some (t0, σ)
set_option maxRecDepth 100000 in
set_option maxHeartbeats 4000000 in
theorem w_X10_columnStep_b17 {p : Program} {l : Launch} {e : Env} {s : State} {m : MethodId} {args : Array Value} {below : List Frame} {meth : Method} {c : Code} {D : va_G} {cy : Nat → ClassId} {ad : Nat → Nat} {bs : Nat} {F : Nat}  (X : mCx p m c cX10_columnStep 1 s args RX10 meth D cy (some .int))  {r : Int} {σ' : mMem}   {t0 : Int} {σ : mMem} {H : Heap} {locs : List Loc} {ls : Array Slot} (hw : mWd D cy ad bs true mN σ s.heap H locs) (hl : lv_has ls 1 []) (hf : g_X10_columnStep_b17 F t0 σ = some (r, σ')) : mGi p l e 1 s m args below meth c D cy ad bs r σ' H locs (F0 m 17 ls [.int (mI t0)]) := by
  obtain ⟨⟨hx, hb, -, -, -⟩, -⟩ := id X
  unfold g_X10_columnStep_b17 at hf
  exact r_iret X hw dX10_columnStep_17 hf
def g_X10_columnStep (F : Nat) (x0 : Int) (σ : mMem) : mRs := if ¬ mw x0 = mw 1 then (if ¬ mw x0 = mw 3 then (g_X10_columnStep_b17 F 0 σ) else (g_X10_columnStep_b17 F (-1) σ)) else (some (1, σ))
set_option maxRecDepth 100000 in
set_option maxHeartbeats 4000000 in
theorem c_X10_columnStep (l : Launch) (D : va_G) (cy : Nat → ClassId) (ad : Nat → Nat) (bs : Nat) (F : Nat)  (x0 : Int) (σ : mMem) (r : Int) (σ' : mMem)  (hf : g_X10_columnStep F x0 σ = some (r, σ')) : mCi l D cy ad bs yX10_columnStep cX10_columnStep 1 (some .int) 1 [.int (mI x0)] σ r σ' := by
  refine mCi.of (lv := [(0, .int (mI x0))]) km_X10_columnStep.2.2.2.2.2 (Nat.le_of_ble_eq_true rfl) rfl (fun p e s m args below meth c H locs ls X hw hl => ?_)
  obtain ⟨⟨hx, hb, -, -, -⟩, -⟩ := id X
  unfold g_X10_columnStep at hf
  refine lv_iload_n hx hb dX10_columnStep_0 rfl (lv_at hl 0 rfl) ?_
  refine lv_iconst (v := mI 1) hx hb dX10_columnStep_1 rfl ?_
  refine r_icmp_ne (tgt := 7) X dX10_columnStep_2 (by decide) hf (fun hc hf => ?_) (fun hc hf => ?_)
  · refine lv_iload_n hx hb dX10_columnStep_7 rfl (lv_at hl 0 rfl) ?_
    refine lv_iconst (v := mI 3) hx hb dX10_columnStep_8 rfl ?_
    refine r_icmp_ne (tgt := 16) X dX10_columnStep_9 (by decide) hf (fun hc hf => ?_) (fun hc hf => ?_)
    · refine lv_iconst (v := mI 0) hx hb dX10_columnStep_16 rfl ?_
      exact w_X10_columnStep_b17 X hw (lv_sub hl [] rfl) hf
    · refine lv_iconst (v := mI (-1)) hx hb dX10_columnStep_12 rfl ?_
      refine lv_goto (tgt := 17) hx hb dX10_columnStep_13 (by decide) ?_
      exact w_X10_columnStep_b17 X hw (lv_sub hl [] rfl) hf
  · refine lv_iconst (v := mI 1) hx hb dX10_columnStep_5 rfl ?_
    exact r_iret X hw dX10_columnStep_6 hf
def g_X10_rowStep_b16 (F : Nat)  (t0 : Int) (σ : mMem) : mRs := some (t0, σ)
set_option maxRecDepth 100000 in
set_option maxHeartbeats 4000000 in
theorem w_X10_rowStep_b16 {p : Program} {l : Launch} {e : Env} {s : State} {m : MethodId} {args : Array Value} {below : List Frame} {meth : Method} {c : Code} {D : va_G} {cy : Nat → ClassId} {ad : Nat → Nat} {bs : Nat} {F : Nat}  (X : mCx p m c cX10_rowStep 1 s args RX10 meth D cy (some .int))  {r : Int} {σ' : mMem}   {t0 : Int} {σ : mMem} {H : Heap} {locs : List Loc} {ls : Array Slot} (hw : mWd D cy ad bs true mN σ s.heap H locs) (hl : lv_has ls 1 []) (hf : g_X10_rowStep_b16 F t0 σ = some (r, σ')) : mGi p l e 1 s m args below meth c D cy ad bs r σ' H locs (F0 m 16 ls [.int (mI t0)]) := by
  obtain ⟨⟨hx, hb, -, -, -⟩, -⟩ := id X
  unfold g_X10_rowStep_b16 at hf
  exact r_iret X hw dX10_rowStep_16 hf
def g_X10_rowStep (F : Nat) (x0 : Int) (σ : mMem) : mRs := if ¬ mw x0 = mw 2 then (if ¬ mw x0 = 0 then (g_X10_rowStep_b16 F 0 σ) else (g_X10_rowStep_b16 F (-1) σ)) else (some (1, σ))
set_option maxRecDepth 100000 in
set_option maxHeartbeats 4000000 in
theorem c_X10_rowStep (l : Launch) (D : va_G) (cy : Nat → ClassId) (ad : Nat → Nat) (bs : Nat) (F : Nat)  (x0 : Int) (σ : mMem) (r : Int) (σ' : mMem)  (hf : g_X10_rowStep F x0 σ = some (r, σ')) : mCi l D cy ad bs yX10_rowStep cX10_rowStep 1 (some .int) 1 [.int (mI x0)] σ r σ' := by
  refine mCi.of (lv := [(0, .int (mI x0))]) km_X10_rowStep.2.2.2.2.2 (Nat.le_of_ble_eq_true rfl) rfl (fun p e s m args below meth c H locs ls X hw hl => ?_)
  obtain ⟨⟨hx, hb, -, -, -⟩, -⟩ := id X
  unfold g_X10_rowStep at hf
  refine lv_iload_n hx hb dX10_rowStep_0 rfl (lv_at hl 0 rfl) ?_
  refine lv_iconst (v := mI 2) hx hb dX10_rowStep_1 rfl ?_
  refine r_icmp_ne (tgt := 7) X dX10_rowStep_2 (by decide) hf (fun hc hf => ?_) (fun hc hf => ?_)
  · refine lv_iload_n hx hb dX10_rowStep_7 rfl (lv_at hl 0 rfl) ?_
    refine r_if_ne (tgt := 15) X dX10_rowStep_8 (by decide) hf (fun hc hf => ?_) (fun hc hf => ?_)
    · refine lv_iconst (v := mI 0) hx hb dX10_rowStep_15 rfl ?_
      exact w_X10_rowStep_b16 X hw (lv_sub hl [] rfl) hf
    · refine lv_iconst (v := mI (-1)) hx hb dX10_rowStep_11 rfl ?_
      refine lv_goto (tgt := 16) hx hb dX10_rowStep_12 (by decide) ?_
      exact w_X10_rowStep_b16 X hw (lv_sub hl [] rfl) hf
  · refine lv_iconst (v := mI 1) hx hb dX10_rowStep_5 rfl ?_
    exact r_iret X hw dX10_rowStep_6 hf
def g_X10_set_b28 (F : Nat) (o : Nat)  (σ : mMem) : mRs := some (0, σ)
set_option maxRecDepth 100000 in
set_option maxHeartbeats 4000000 in
theorem w_X10_set_b28 {p : Program} {l : Launch} {e : Env} {s : State} {m : MethodId} {args : Array Value} {below : List Frame} {meth : Method} {c : Code} {D : va_G} {cy : Nat → ClassId} {ad : Nat → Nat} {bs : Nat} {F : Nat} {o : Nat} (X : mCx p m c cX10_set 5 s args RX10 meth D cy none) (ho : mWorld o) {r : Int} {σ' : mMem}    {σ : mMem} {H : Heap} {locs : List Loc} {ls : Array Slot} (hw : mWd D cy ad bs true mN σ s.heap H locs) (hl : lv_has ls 5 [(0, .ref (ad o))]) (hf : g_X10_set_b28 F o  σ = some (r, σ')) : mGv p l e 1 s m args below meth c D cy ad bs σ' H locs (F0 m 28 ls []) := by
  obtain ⟨⟨hx, hb, -, -, -⟩, -⟩ := id X
  unfold g_X10_set_b28 at hf
  exact r_vret X hw dX10_set_28 hf
def g_X10_set (F : Nat) (o : Nat) (x1 x2 x3 : Int) (σ : mMem) : mRs := mlet ((x1 * 10) + x2) (fun y1 => if mw y1 < 0 then (g_X10_set_b28 F o σ) else (if mw 60 ≤ mw y1 then (g_X10_set_b28 F o σ) else (if 0 ≤ mw y1 ∧ mw y1 < (60 : Int) then mlm (mup σ (o + 1) (mw y1).toNat x3) (fun σ2 => g_X10_set_b28 F o σ2) else none)))
set_option maxRecDepth 100000 in
set_option maxHeartbeats 4000000 in
theorem c_X10_set (l : Launch) (D : va_G) (cy : Nat → ClassId) (ad : Nat → Nat) (bs : Nat) (F : Nat) (o : Nat) (x1 x2 x3 : Int) (σ : mMem) (r : Int) (σ' : mMem) (ho : mWorld o) (hf : g_X10_set F o x1 x2 x3 σ = some (r, σ')) : mCv l D cy ad bs yX10_set cX10_set 5 none 1 [.ref (ad o), .int (mI x1), .int (mI x2), .int (mI x3)] σ σ' := by
  refine mCv.of (lv := [(0, .ref (ad o)), (1, .int (mI x1)), (2, .int (mI x2)), (3, .int (mI x3))]) km_X10_set.2.2.2.2.2 (Nat.le_of_ble_eq_true rfl) rfl (fun p e s m args below meth c H locs ls X hw hl => ?_)
  obtain ⟨⟨hx, hb, -, -, -⟩, -⟩ := id X
  unfold g_X10_set at hf
  refine lv_iload_n hx hb dX10_set_0 rfl (lv_at hl 1 rfl) ?_
  refine lv_bipush (v := mI 10) hx hb dX10_set_1 (by decide) ?_
  refine r_imul X dX10_set_3 ?_
  refine lv_iload_n hx hb dX10_set_4 rfl (lv_at hl 2 rfl) ?_
  refine r_iadd X dX10_set_5 ?_
  refine r_leti hf (fun y1 hf => ?_)
  refine lv_istore (lv' := [(4, .int (mI y1)), (0, .ref (ad o)), (1, .int (mI x1)), (2, .int (mI x2)), (3, .int (mI x3))]) hx hb dX10_set_6 hl (by decide) rfl (fun ls hl => ?_)
  refine lv_iload hx hb dX10_set_8 (lv_at hl 0 rfl) ?_
  refine r_if_lt (tgt := 28) X dX10_set_10 (by decide) hf (fun hc hf => ?_) (fun hc hf => ?_)
  · exact w_X10_set_b28 X ho hw (lv_sub hl [1] rfl) hf
  · refine lv_iload hx hb dX10_set_13 (lv_at hl 0 rfl) ?_
    refine lv_bipush (v := mI 60) hx hb dX10_set_15 (by decide) ?_
    refine r_icmp_ge (tgt := 28) X dX10_set_17 (by decide) hf (fun hc hf => ?_) (fun hc hf => ?_)
    · exact w_X10_set_b28 X ho hw (lv_sub hl [1] rfl) hf
    · refine lv_aload_n hx hb dX10_set_20 rfl (lv_at hl 1 rfl) ?_
      refine r_getr (o + 1) X hw ho.1 fd_10_0 rfl rfl lf_X10_13 dX10_set_21 ?_
      refine lv_iload hx hb dX10_set_24 (lv_at hl 0 rfl) ?_
      refine lv_iload_n hx hb dX10_set_26 rfl (lv_at hl 4 rfl) ?_
      refine r_iast (60 : Int) rfl X hw ho.2.1 dX10_set_27 hf (fun hf H locs hw => ?_)
      refine r_mem hf hw (fun σ2 hw hf => ?_)
      exact w_X10_set_b28 X ho hw (lv_sub hl [1] rfl) hf
def g_X10_turnBy (F : Nat) (o : Nat) (x1 x2 : Int) (σ : mMem) : mRs := mob (g_X10_of F o x1 2 σ) (fun r1 σ2 => mob (g_X10_set F o x1 2 (mand (r1 + x2) 3) σ2) (fun r3 σ4 => some (0, σ4)))
set_option maxRecDepth 100000 in
set_option maxHeartbeats 4000000 in
theorem c_X10_turnBy (l : Launch) (D : va_G) (cy : Nat → ClassId) (ad : Nat → Nat) (bs : Nat) (F : Nat) (o : Nat) (x1 x2 : Int) (σ : mMem) (r : Int) (σ' : mMem) (ho : mWorld o) (hf : g_X10_turnBy F o x1 x2 σ = some (r, σ')) : mCv l D cy ad bs yX10_turnBy cX10_turnBy 3 none 2 [.ref (ad o), .int (mI x1), .int (mI x2)] σ σ' := by
  refine mCv.of (lv := [(0, .ref (ad o)), (1, .int (mI x1)), (2, .int (mI x2))]) km_X10_turnBy.2.2.2.2.2 (Nat.le_of_ble_eq_true rfl) rfl (fun p e s m args below meth c H locs ls X hw hl => ?_)
  obtain ⟨⟨hx, hb, -, -, -⟩, -⟩ := id X
  unfold g_X10_turnBy at hf
  refine lv_aload_n hx hb dX10_turnBy_0 rfl (lv_at hl 0 rfl) ?_
  refine lv_iload_n hx hb dX10_turnBy_1 rfl (lv_at hl 1 rfl) ?_
  refine lv_iconst (v := mI 2) hx hb dX10_turnBy_2 rfl ?_
  refine lv_aload_n hx hb dX10_turnBy_3 rfl (lv_at hl 0 rfl) ?_
  refine lv_iload_n hx hb dX10_turnBy_4 rfl (lv_at hl 1 rfl) ?_
  refine lv_iconst (v := mI 2) hx hb dX10_turnBy_5 rfl ?_
  refine r_cvi (rest := [.int (mI 2), .int (mI x1), .ref (ad o)]) [.int (mI x1), .int (mI 2)] X hw (fun ra σa h => c_X10_of l D cy ad bs F o x1 2 σ ra σa ho h) ho.1 rfl (by decide) rfl km_X10_of kv_X10_of lm_X10_65 dX10_turnBy_6 hl.1 rfl rfl (Nat.le_of_ble_eq_true rfl) ⟨by decide, by decide⟩ ⟨Nat.zero_le _, Nat.zero_le _⟩ hf (fun r1 σ2 _ hf H locs hw => ?_)
  refine lv_iload_n hx hb dX10_turnBy_9 rfl (lv_at hl 2 rfl) ?_
  refine r_iadd X dX10_turnBy_10 ?_
  refine lv_iconst (v := mI 3) hx hb dX10_turnBy_11 rfl ?_
  refine r_iand X dX10_turnBy_12 ?_
  refine r_cvv (rest := []) [.int (mI x1), .int (mI 2), .int (mI (mand (r1 + x2) 3))] X hw (fun ra σa h => c_X10_set l D cy ad bs F o x1 2 (mand (r1 + x2) 3) σ2 ra σa ho h) ho.1 rfl (by decide) rfl km_X10_set kv_X10_set lm_X10_61 dX10_turnBy_13 hl.1 rfl rfl (Nat.le_of_ble_eq_true rfl) ⟨by decide, by decide⟩ ⟨Nat.zero_le _, Nat.zero_le _⟩ hf (fun r3 σ4 _ hf H locs hw => ?_)
  exact r_vret X hw dX10_turnBy_16 hf
def g_X5_hasCell_b29 (F : Nat) (o : Nat)  (t0 : Int) (σ : mMem) : mRs := if mw t0 = 0 ∨ mw t0 = 1 then some (t0, σ) else none
set_option maxRecDepth 100000 in
set_option maxHeartbeats 4000000 in
theorem w_X5_hasCell_b29 {p : Program} {l : Launch} {e : Env} {s : State} {m : MethodId} {args : Array Value} {below : List Frame} {meth : Method} {c : Code} {D : va_G} {cy : Nat → ClassId} {ad : Nat → Nat} {bs : Nat} {F : Nat} {o : Nat} (X : mCx p m c cX5_hasCell 3 s args RX5 meth D cy (some .boolean)) (ho : mPlan o) {r : Int} {σ' : mMem}   {t0 : Int} {σ : mMem} {H : Heap} {locs : List Loc} {ls : Array Slot} (hw : mWd D cy ad bs true mN σ s.heap H locs) (hl : lv_has ls 3 [(0, .ref (ad o))]) (hf : g_X5_hasCell_b29 F o t0 σ = some (r, σ')) : mGi p l e 1 s m args below meth c D cy ad bs r σ' H locs (F0 m 29 ls [.int (mI t0)]) := by
  obtain ⟨⟨hx, hb, -, -, -⟩, -⟩ := id X
  unfold g_X5_hasCell_b29 at hf
  exact r_zret X hw dX5_hasCell_29 hf
def g_X5_hasCell_b28 (F : Nat) (o : Nat)  (σ : mMem) : mRs := g_X5_hasCell_b29 F o 0 σ
set_option maxRecDepth 100000 in
set_option maxHeartbeats 4000000 in
theorem w_X5_hasCell_b28 {p : Program} {l : Launch} {e : Env} {s : State} {m : MethodId} {args : Array Value} {below : List Frame} {meth : Method} {c : Code} {D : va_G} {cy : Nat → ClassId} {ad : Nat → Nat} {bs : Nat} {F : Nat} {o : Nat} (X : mCx p m c cX5_hasCell 3 s args RX5 meth D cy (some .boolean)) (ho : mPlan o) {r : Int} {σ' : mMem}    {σ : mMem} {H : Heap} {locs : List Loc} {ls : Array Slot} (hw : mWd D cy ad bs true mN σ s.heap H locs) (hl : lv_has ls 3 [(0, .ref (ad o))]) (hf : g_X5_hasCell_b28 F o  σ = some (r, σ')) : mGi p l e 1 s m args below meth c D cy ad bs r σ' H locs (F0 m 28 ls []) := by
  obtain ⟨⟨hx, hb, -, -, -⟩, -⟩ := id X
  unfold g_X5_hasCell_b28 at hf
  refine lv_iconst (v := mI 0) hx hb dX5_hasCell_28 rfl ?_
  exact w_X5_hasCell_b29 X ho hw (lv_sub hl [0] rfl) hf
def g_X5_hasCell (F : Nat) (o : Nat) (x1 x2 : Int) (σ : mMem) : mRs := if mw x1 < 0 then (g_X5_hasCell_b28 F o σ) else (if mw (σ o 9) ≤ mw x1 then (g_X5_hasCell_b28 F o σ) else (if mw x2 < 0 then (g_X5_hasCell_b28 F o σ) else (if mw (σ o 10) ≤ mw x2 then (g_X5_hasCell_b28 F o σ) else (g_X5_hasCell_b29 F o 1 σ))))
set_option maxRecDepth 100000 in
set_option maxHeartbeats 4000000 in
theorem c_X5_hasCell (l : Launch) (D : va_G) (cy : Nat → ClassId) (ad : Nat → Nat) (bs : Nat) (F : Nat) (o : Nat) (x1 x2 : Int) (σ : mMem) (r : Int) (σ' : mMem) (ho : mPlan o) (hf : g_X5_hasCell F o x1 x2 σ = some (r, σ')) : mCi l D cy ad bs yX5_hasCell cX5_hasCell 3 (some .boolean) 1 [.ref (ad o), .int (mI x1), .int (mI x2)] σ r σ' := by
  refine mCi.of (lv := [(0, .ref (ad o)), (1, .int (mI x1)), (2, .int (mI x2))]) km_X5_hasCell.2.2.2.2.2 (Nat.le_of_ble_eq_true rfl) rfl (fun p e s m args below meth c H locs ls X hw hl => ?_)
  obtain ⟨⟨hx, hb, -, -, -⟩, -⟩ := id X
  unfold g_X5_hasCell at hf
  refine lv_iload_n hx hb dX5_hasCell_0 rfl (lv_at hl 1 rfl) ?_
  refine r_if_lt (tgt := 28) X dX5_hasCell_1 (by decide) hf (fun hc hf => ?_) (fun hc hf => ?_)
  · exact w_X5_hasCell_b28 X ho hw (lv_sub hl [0] rfl) hf
  · refine lv_iload_n hx hb dX5_hasCell_4 rfl (lv_at hl 1 rfl) ?_
    refine lv_aload_n hx hb dX5_hasCell_5 rfl (lv_at hl 0 rfl) ?_
    refine r_geti X hw ho.1 fd_5_9 rfl lf_X5_53 dX5_hasCell_6 ?_
    refine r_icmp_ge (tgt := 28) X dX5_hasCell_9 (by decide) hf (fun hc hf => ?_) (fun hc hf => ?_)
    · exact w_X5_hasCell_b28 X ho hw (lv_sub hl [0] rfl) hf
    · refine lv_iload_n hx hb dX5_hasCell_12 rfl (lv_at hl 2 rfl) ?_
      refine r_if_lt (tgt := 28) X dX5_hasCell_13 (by decide) hf (fun hc hf => ?_) (fun hc hf => ?_)
      · exact w_X5_hasCell_b28 X ho hw (lv_sub hl [0] rfl) hf
      · refine lv_iload_n hx hb dX5_hasCell_16 rfl (lv_at hl 2 rfl) ?_
        refine lv_aload_n hx hb dX5_hasCell_17 rfl (lv_at hl 0 rfl) ?_
        refine r_geti X hw ho.1 fd_5_10 rfl lf_X5_56 dX5_hasCell_18 ?_
        refine r_icmp_ge (tgt := 28) X dX5_hasCell_21 (by decide) hf (fun hc hf => ?_) (fun hc hf => ?_)
        · exact w_X5_hasCell_b28 X ho hw (lv_sub hl [0] rfl) hf
        · refine lv_iconst (v := mI 1) hx hb dX5_hasCell_24 rfl ?_
          refine lv_goto (tgt := 29) hx hb dX5_hasCell_25 (by decide) ?_
          exact w_X5_hasCell_b29 X ho hw (lv_sub hl [0] rfl) hf
def g_X10_goAhead_b56 (F : Nat) (o : Nat)  (x1 : Int) (σ : mMem) : mRs := mob (g_X10_of F o x1 9 σ) (fun r129 σ130 => mob (g_X10_set F o x1 9 (r129 + 1) σ130) (fun r131 σ132 => mlm (mup σ132 o 7 ((σ132 o 7) + 1)) (fun σ133 => some (0, σ133))))
set_option maxRecDepth 100000 in
set_option maxHeartbeats 4000000 in
theorem w_X10_goAhead_b56 {p : Program} {l : Launch} {e : Env} {s : State} {m : MethodId} {args : Array Value} {below : List Frame} {meth : Method} {c : Code} {D : va_G} {cy : Nat → ClassId} {ad : Nat → Nat} {bs : Nat} {F : Nat} {o : Nat} (X : mCx p m c cX10_goAhead 5 s args RX10 meth D cy none) (ho : mWorld o) {r : Int} {σ' : mMem}   {x1 : Int} {σ : mMem} {H : Heap} {locs : List Loc} {ls : Array Slot} (hw : mWd D cy ad bs true mN σ s.heap H locs) (hl : lv_has ls 5 [(0, .ref (ad o)), (1, .int (mI x1))]) (hf : g_X10_goAhead_b56 F o x1 σ = some (r, σ')) : mGv p l e 3 s m args below meth c D cy ad bs σ' H locs (F0 m 56 ls []) := by
  obtain ⟨⟨hx, hb, -, -, -⟩, -⟩ := id X
  unfold g_X10_goAhead_b56 at hf
  refine lv_aload_n hx hb dX10_goAhead_56 rfl (lv_at hl 0 rfl) ?_
  refine lv_iload_n hx hb dX10_goAhead_57 rfl (lv_at hl 1 rfl) ?_
  refine lv_bipush (v := mI 9) hx hb dX10_goAhead_58 (by decide) ?_
  refine lv_aload_n hx hb dX10_goAhead_60 rfl (lv_at hl 0 rfl) ?_
  refine lv_iload_n hx hb dX10_goAhead_61 rfl (lv_at hl 1 rfl) ?_
  refine lv_bipush (v := mI 9) hx hb dX10_goAhead_62 (by decide) ?_
  refine r_cvi (rest := [.int (mI 9), .int (mI x1), .ref (ad o)]) [.int (mI x1), .int (mI 9)] X hw (fun ra σa h => c_X10_of l D cy ad bs F o x1 9 σ ra σa ho h) ho.1 rfl (by decide) rfl km_X10_of kv_X10_of lm_X10_65 dX10_goAhead_64 hl.1 rfl rfl (Nat.le_of_ble_eq_true rfl) ⟨by decide, by decide⟩ ⟨Nat.zero_le _, Nat.zero_le _⟩ hf (fun r129 σ130 _ hf H locs hw => ?_)
  refine lv_iconst (v := mI 1) hx hb dX10_goAhead_67 rfl ?_
  refine r_iadd X dX10_goAhead_68 ?_
  refine r_cvv (rest := []) [.int (mI x1), .int (mI 9), .int (mI (r129 + 1))] X hw (fun ra σa h => c_X10_set l D cy ad bs F o x1 9 (r129 + 1) σ130 ra σa ho h) ho.1 rfl (by decide) rfl km_X10_set kv_X10_set lm_X10_61 dX10_goAhead_69 hl.1 rfl rfl (Nat.le_of_ble_eq_true rfl) ⟨by decide, by decide⟩ ⟨Nat.zero_le _, Nat.zero_le _⟩ hf (fun r131 σ132 _ hf H locs hw => ?_)
  refine lv_aload_n hx hb dX10_goAhead_72 rfl (lv_at hl 0 rfl) ?_
  refine lv_dup hx hb dX10_goAhead_73 rfl ?_
  refine r_geti X hw ho.1 fd_10_7 rfl lf_X10_42 dX10_goAhead_74 ?_
  refine lv_iconst (v := mI 1) hx hb dX10_goAhead_77 rfl ?_
  refine r_iadd X dX10_goAhead_78 ?_
  refine r_puti X hw ho.1 fd_10_7 fp_10_7 rfl rfl lf_X10_42 dX10_goAhead_79 (fun H locs hw => ?_)
  refine r_mem hf hw (fun σ133 hw hf => ?_)
  exact r_vret X hw dX10_goAhead_82 hf
def g_X10_goAhead_b180 (F : Nat) (o : Nat)  (σ : mMem) : mRs := some (0, σ)
set_option maxRecDepth 100000 in
set_option maxHeartbeats 4000000 in
theorem w_X10_goAhead_b180 {p : Program} {l : Launch} {e : Env} {s : State} {m : MethodId} {args : Array Value} {below : List Frame} {meth : Method} {c : Code} {D : va_G} {cy : Nat → ClassId} {ad : Nat → Nat} {bs : Nat} {F : Nat} {o : Nat} (X : mCx p m c cX10_goAhead 5 s args RX10 meth D cy none) (ho : mWorld o) {r : Int} {σ' : mMem}    {σ : mMem} {H : Heap} {locs : List Loc} {ls : Array Slot} (hw : mWd D cy ad bs true mN σ s.heap H locs) (hl : lv_has ls 5 [(0, .ref (ad o))]) (hf : g_X10_goAhead_b180 F o  σ = some (r, σ')) : mGv p l e 3 s m args below meth c D cy ad bs σ' H locs (F0 m 180 ls []) := by
  obtain ⟨⟨hx, hb, -, -, -⟩, -⟩ := id X
  unfold g_X10_goAhead_b180 at hf
  exact r_vret X hw dX10_goAhead_180 hf
def g_X10_goAhead_b137 (F : Nat) (o : Nat)  (x1 : Int) (σ : mMem) : mRs := mlm (mup σ o 6 ((σ o 6) + 1)) (fun σ234 => mob (g_X10_of F o x1 7 σ234) (fun r235 σ236 => if mw r235 ≤ 0 then (g_X10_goAhead_b180 F o σ236) else (mob (g_X10_of F o x1 8 σ236) (fun r237 σ238 => if mw r235 = 0 then none else (if ¬ mw ((mw r237).tmod (mw r235)) = 0 then (g_X10_goAhead_b180 F o σ238) else (mob (g_X10_turnBy F o x1 1 σ238) (fun r239 σ240 => g_X10_goAhead_b180 F o σ240)))))))
set_option maxRecDepth 100000 in
set_option maxHeartbeats 4000000 in
theorem w_X10_goAhead_b137 {p : Program} {l : Launch} {e : Env} {s : State} {m : MethodId} {args : Array Value} {below : List Frame} {meth : Method} {c : Code} {D : va_G} {cy : Nat → ClassId} {ad : Nat → Nat} {bs : Nat} {F : Nat} {o : Nat} (X : mCx p m c cX10_goAhead 5 s args RX10 meth D cy none) (ho : mWorld o) {r : Int} {σ' : mMem}   {x1 : Int} {σ : mMem} {H : Heap} {locs : List Loc} {ls : Array Slot} (hw : mWd D cy ad bs true mN σ s.heap H locs) (hl : lv_has ls 5 [(0, .ref (ad o)), (1, .int (mI x1))]) (hf : g_X10_goAhead_b137 F o x1 σ = some (r, σ')) : mGv p l e 3 s m args below meth c D cy ad bs σ' H locs (F0 m 137 ls []) := by
  obtain ⟨⟨hx, hb, -, -, -⟩, -⟩ := id X
  unfold g_X10_goAhead_b137 at hf
  refine lv_aload_n hx hb dX10_goAhead_137 rfl (lv_at hl 0 rfl) ?_
  refine lv_dup hx hb dX10_goAhead_138 rfl ?_
  refine r_geti X hw ho.1 fd_10_6 rfl lf_X10_39 dX10_goAhead_139 ?_
  refine lv_iconst (v := mI 1) hx hb dX10_goAhead_142 rfl ?_
  refine r_iadd X dX10_goAhead_143 ?_
  refine r_puti X hw ho.1 fd_10_6 fp_10_6 rfl rfl lf_X10_39 dX10_goAhead_144 (fun H locs hw => ?_)
  refine r_mem hf hw (fun σ234 hw hf => ?_)
  refine lv_aload_n hx hb dX10_goAhead_147 rfl (lv_at hl 0 rfl) ?_
  refine lv_iload_n hx hb dX10_goAhead_148 rfl (lv_at hl 1 rfl) ?_
  refine lv_bipush (v := mI 7) hx hb dX10_goAhead_149 (by decide) ?_
  refine r_cvi (rest := []) [.int (mI x1), .int (mI 7)] X hw (fun ra σa h => c_X10_of l D cy ad bs F o x1 7 σ234 ra σa ho h) ho.1 rfl (by decide) rfl km_X10_of kv_X10_of lm_X10_65 dX10_goAhead_151 hl.1 rfl rfl (Nat.le_of_ble_eq_true rfl) ⟨by decide, by decide⟩ ⟨Nat.zero_le _, Nat.zero_le _⟩ hf (fun r235 σ236 _ hf H locs hw => ?_)
  refine lv_istore (lv' := [(4, .int (mI r235)), (0, .ref (ad o)), (1, .int (mI x1))]) hx hb dX10_goAhead_154 hl (by decide) rfl (fun ls hl => ?_)
  refine lv_iload hx hb dX10_goAhead_156 (lv_at hl 0 rfl) ?_
  refine r_if_le (tgt := 180) X dX10_goAhead_158 (by decide) hf (fun hc hf => ?_) (fun hc hf => ?_)
  · exact w_X10_goAhead_b180 X ho hw (lv_sub hl [1] rfl) hf
  · refine lv_aload_n hx hb dX10_goAhead_161 rfl (lv_at hl 1 rfl) ?_
    refine lv_iload_n hx hb dX10_goAhead_162 rfl (lv_at hl 2 rfl) ?_
    refine lv_bipush (v := mI 8) hx hb dX10_goAhead_163 (by decide) ?_
    refine r_cvi (rest := []) [.int (mI x1), .int (mI 8)] X hw (fun ra σa h => c_X10_of l D cy ad bs F o x1 8 σ236 ra σa ho h) ho.1 rfl (by decide) rfl km_X10_of kv_X10_of lm_X10_65 dX10_goAhead_165 hl.1 rfl rfl (Nat.le_of_ble_eq_true rfl) ⟨by decide, by decide⟩ ⟨Nat.zero_le _, Nat.zero_le _⟩ hf (fun r237 σ238 _ hf H locs hw => ?_)
    refine lv_iload hx hb dX10_goAhead_168 (lv_at hl 0 rfl) ?_
    refine r_irem X dX10_goAhead_170 hf (fun hf => ?_)
    refine r_if_ne (tgt := 180) X dX10_goAhead_171 (by decide) hf (fun hc hf => ?_) (fun hc hf => ?_)
    · exact w_X10_goAhead_b180 X ho hw (lv_sub hl [1] rfl) hf
    · refine lv_aload_n hx hb dX10_goAhead_174 rfl (lv_at hl 1 rfl) ?_
      refine lv_iload_n hx hb dX10_goAhead_175 rfl (lv_at hl 2 rfl) ?_
      refine lv_iconst (v := mI 1) hx hb dX10_goAhead_176 rfl ?_
      refine r_cvv (rest := []) [.int (mI x1), .int (mI 1)] X hw (fun ra σa h => c_X10_turnBy l D cy ad bs F o x1 1 σ238 ra σa ho h) ho.1 rfl (by decide) rfl km_X10_turnBy kv_X10_turnBy lm_X10_128 dX10_goAhead_177 hl.1 rfl rfl (Nat.le_of_ble_eq_true rfl) ⟨by decide, by decide⟩ ⟨Nat.zero_le _, Nat.zero_le _⟩ hf (fun r239 σ240 _ hf H locs hw => ?_)
      exact w_X10_goAhead_b180 X ho hw (lv_sub hl [1] rfl) hf
def g_X10_goAhead (F : Nat) (o : Nat) (x1 : Int) (σ : mMem) : mRs := mob (g_X10_of F o x1 0 σ) (fun r1 σ2 => mob (g_X10_of F o x1 2 σ2) (fun r3 σ4 => mob (g_X10_columnStep F r3 σ4) (fun r5 σ6 => mlet (r1 + r5) (fun y7 => mob (g_X10_of F o x1 1 σ6) (fun r8 σ9 => mob (g_X10_of F o x1 2 σ9) (fun r10 σ11 => mob (g_X10_rowStep F r10 σ11) (fun r12 σ13 => mlet (r8 + r12) (fun y14 => if σ13 o 3 = 3 ∨ σ13 o 3 = 8 then mob (g_X5_hasCell F (σ13 o 3).toNat y7 y14 σ13) (fun r16 σ17 => if mw r16 = 0 then (g_X10_goAhead_b56 F o x1 σ17) else (mob (g_X10_boxOn F o y7 y14 σ17) (fun r18 σ19 => if mw r18 = mw (-1) then (mob (g_X10_set F o x1 0 y7 σ19) (fun r20 σ21 => mob (g_X10_set F o x1 1 y14 σ21) (fun r22 σ23 => mob (g_X10_of F o x1 8 σ23) (fun r24 σ25 => if mw 2520 = 0 then none else (mob (g_X10_set F o x1 8 ((mw (r24 + 1)).tmod (mw 2520)) σ25) (fun r26 σ27 => if mw x1 < 0 then (g_X10_goAhead_b137 F o x1 σ27) else (if mw 6 ≤ mw x1 then (g_X10_goAhead_b137 F o x1 σ27) else (if 0 ≤ mw x1 ∧ mw x1 < (6 : Int) ∧ (mw 1 = 0 ∨ mw 1 = 1) then mlm (mup σ27 (o + 2) (mw x1).toNat 1) (fun σ28 => g_X10_goAhead_b137 F o x1 σ28) else none)))))))) else (g_X10_goAhead_b56 F o x1 σ19)))) else none))))))))
set_option maxRecDepth 100000 in
set_option maxHeartbeats 4000000 in
theorem c_X10_goAhead (l : Launch) (D : va_G) (cy : Nat → ClassId) (ad : Nat → Nat) (bs : Nat) (F : Nat) (o : Nat) (x1 : Int) (σ : mMem) (r : Int) (σ' : mMem) (ho : mWorld o) (hf : g_X10_goAhead F o x1 σ = some (r, σ')) : mCv l D cy ad bs yX10_goAhead cX10_goAhead 5 none 3 [.ref (ad o), .int (mI x1)] σ σ' := by
  refine mCv.of (lv := [(0, .ref (ad o)), (1, .int (mI x1))]) km_X10_goAhead.2.2.2.2.2 (Nat.le_of_ble_eq_true rfl) rfl (fun p e s m args below meth c H locs ls X hw hl => ?_)
  obtain ⟨⟨hx, hb, -, -, -⟩, -⟩ := id X
  unfold g_X10_goAhead at hf
  refine lv_aload_n hx hb dX10_goAhead_0 rfl (lv_at hl 0 rfl) ?_
  refine lv_iload_n hx hb dX10_goAhead_1 rfl (lv_at hl 1 rfl) ?_
  refine lv_iconst (v := mI 0) hx hb dX10_goAhead_2 rfl ?_
  refine r_cvi (rest := []) [.int (mI x1), .int (mI 0)] X hw (fun ra σa h => c_X10_of l D cy ad bs F o x1 0 σ ra σa ho h) ho.1 rfl (by decide) rfl km_X10_of kv_X10_of lm_X10_65 dX10_goAhead_3 hl.1 rfl rfl (Nat.le_of_ble_eq_true rfl) ⟨by decide, by decide⟩ ⟨Nat.zero_le _, Nat.zero_le _⟩ hf (fun r1 σ2 _ hf H locs hw => ?_)
  refine lv_aload_n hx hb dX10_goAhead_6 rfl (lv_at hl 0 rfl) ?_
  refine lv_iload_n hx hb dX10_goAhead_7 rfl (lv_at hl 1 rfl) ?_
  refine lv_iconst (v := mI 2) hx hb dX10_goAhead_8 rfl ?_
  refine r_cvi (rest := [.int (mI r1)]) [.int (mI x1), .int (mI 2)] X hw (fun ra σa h => c_X10_of l D cy ad bs F o x1 2 σ2 ra σa ho h) ho.1 rfl (by decide) rfl km_X10_of kv_X10_of lm_X10_65 dX10_goAhead_9 hl.1 rfl rfl (Nat.le_of_ble_eq_true rfl) ⟨by decide, by decide⟩ ⟨Nat.zero_le _, Nat.zero_le _⟩ hf (fun r3 σ4 _ hf H locs hw => ?_)
  refine r_csi (rest := [.int (mI r1)]) [.int (mI r3)] X hw (fun ra σa h => c_X10_columnStep l D cy ad bs F r3 σ4 ra σa  h) km_X10_columnStep ks_X10_columnStep lm_X10_95 dX10_goAhead_12 hl.1 rfl rfl (Nat.le_of_ble_eq_true rfl) ⟨by decide, by decide⟩ ⟨Nat.zero_le _, Nat.zero_le _⟩ hf (fun r5 σ6 _ hf H locs hw => ?_)
  refine r_iadd X dX10_goAhead_15 ?_
  refine r_leti hf (fun y7 hf => ?_)
  refine lv_istore_n (lv' := [(2, .int (mI y7)), (0, .ref (ad o)), (1, .int (mI x1))]) hx hb dX10_goAhead_16 rfl hl (by decide) rfl (fun ls hl => ?_)
  refine lv_aload_n hx hb dX10_goAhead_17 rfl (lv_at hl 1 rfl) ?_
  refine lv_iload_n hx hb dX10_goAhead_18 rfl (lv_at hl 2 rfl) ?_
  refine lv_iconst (v := mI 1) hx hb dX10_goAhead_19 rfl ?_
  refine r_cvi (rest := []) [.int (mI x1), .int (mI 1)] X hw (fun ra σa h => c_X10_of l D cy ad bs F o x1 1 σ6 ra σa ho h) ho.1 rfl (by decide) rfl km_X10_of kv_X10_of lm_X10_65 dX10_goAhead_20 hl.1 rfl rfl (Nat.le_of_ble_eq_true rfl) ⟨by decide, by decide⟩ ⟨Nat.zero_le _, Nat.zero_le _⟩ hf (fun r8 σ9 _ hf H locs hw => ?_)
  refine lv_aload_n hx hb dX10_goAhead_23 rfl (lv_at hl 1 rfl) ?_
  refine lv_iload_n hx hb dX10_goAhead_24 rfl (lv_at hl 2 rfl) ?_
  refine lv_iconst (v := mI 2) hx hb dX10_goAhead_25 rfl ?_
  refine r_cvi (rest := [.int (mI r8)]) [.int (mI x1), .int (mI 2)] X hw (fun ra σa h => c_X10_of l D cy ad bs F o x1 2 σ9 ra σa ho h) ho.1 rfl (by decide) rfl km_X10_of kv_X10_of lm_X10_65 dX10_goAhead_26 hl.1 rfl rfl (Nat.le_of_ble_eq_true rfl) ⟨by decide, by decide⟩ ⟨Nat.zero_le _, Nat.zero_le _⟩ hf (fun r10 σ11 _ hf H locs hw => ?_)
  refine r_csi (rest := [.int (mI r8)]) [.int (mI r10)] X hw (fun ra σa h => c_X10_rowStep l D cy ad bs F r10 σ11 ra σa  h) km_X10_rowStep ks_X10_rowStep lm_X10_98 dX10_goAhead_29 hl.1 rfl rfl (Nat.le_of_ble_eq_true rfl) ⟨by decide, by decide⟩ ⟨Nat.zero_le _, Nat.zero_le _⟩ hf (fun r12 σ13 _ hf H locs hw => ?_)
  refine r_iadd X dX10_goAhead_32 ?_
  refine r_leti hf (fun y14 hf => ?_)
  refine lv_istore_n (lv' := [(3, .int (mI y14)), (2, .int (mI y7)), (0, .ref (ad o)), (1, .int (mI x1))]) hx hb dX10_goAhead_33 rfl hl (by decide) rfl (fun ls hl => ?_)
  refine lv_aload_n hx hb dX10_goAhead_34 rfl (lv_at hl 2 rfl) ?_
  refine r_getp X hw ho.1 fd_10_3 rfl lf_X10_28 dX10_goAhead_35 hf (fun hg15 hf => ?_)
  refine lv_iload_n hx hb dX10_goAhead_38 rfl (lv_at hl 1 rfl) ?_
  refine lv_iload_n hx hb dX10_goAhead_39 rfl (lv_at hl 0 rfl) ?_
  refine r_cvi (rest := []) [.int (mI y7), .int (mI y14)] X hw (fun ra σa h => c_X5_hasCell l D cy ad bs F (σ13 o 3).toNat y7 y14 σ13 ra σa (mPlan_z hg15) h) (mPlan_z hg15).1 rfl (by decide) rfl km_X5_hasCell kv_X5_hasCell lm_X10_144 dX10_goAhead_40 hl.1 rfl rfl (Nat.le_of_ble_eq_true rfl) ⟨by decide, by decide⟩ ⟨Nat.zero_le _, Nat.zero_le _⟩ hf (fun r16 σ17 _ hf H locs hw => ?_)
  refine r_if_eq (tgt := 56) X dX10_goAhead_43 (by decide) hf (fun hc hf => ?_) (fun hc hf => ?_)
  · exact w_X10_goAhead_b56 X ho hw (lv_sub hl [2, 3] rfl) hf
  · refine lv_aload_n hx hb dX10_goAhead_46 rfl (lv_at hl 2 rfl) ?_
    refine lv_iload_n hx hb dX10_goAhead_47 rfl (lv_at hl 1 rfl) ?_
    refine lv_iload_n hx hb dX10_goAhead_48 rfl (lv_at hl 0 rfl) ?_
    refine r_cvi (rest := []) [.int (mI y7), .int (mI y14)] X hw (fun ra σa h => c_X10_boxOn l D cy ad bs F o y7 y14 σ17 ra σa ho h) ho.1 rfl (by decide) rfl km_X10_boxOn kv_X10_boxOn lm_X10_147 dX10_goAhead_49 hl.1 rfl rfl (Nat.le_of_ble_eq_true rfl) ⟨by decide, by decide⟩ ⟨Nat.zero_le _, Nat.zero_le _⟩ hf (fun r18 σ19 _ hf H locs hw => ?_)
    refine lv_iconst (v := mI (-1)) hx hb dX10_goAhead_52 rfl ?_
    refine r_icmp_eq (tgt := 83) X dX10_goAhead_53 (by decide) hf (fun hc hf => ?_) (fun hc hf => ?_)
    · refine lv_aload_n hx hb dX10_goAhead_83 rfl (lv_at hl 2 rfl) ?_
      refine lv_iload_n hx hb dX10_goAhead_84 rfl (lv_at hl 3 rfl) ?_
      refine lv_iconst (v := mI 0) hx hb dX10_goAhead_85 rfl ?_
      refine lv_iload_n hx hb dX10_goAhead_86 rfl (lv_at hl 1 rfl) ?_
      refine r_cvv (rest := []) [.int (mI x1), .int (mI 0), .int (mI y7)] X hw (fun ra σa h => c_X10_set l D cy ad bs F o x1 0 y7 σ19 ra σa ho h) ho.1 rfl (by decide) rfl km_X10_set kv_X10_set lm_X10_61 dX10_goAhead_87 hl.1 rfl rfl (Nat.le_of_ble_eq_true rfl) ⟨by decide, by decide⟩ ⟨Nat.zero_le _, Nat.zero_le _⟩ hf (fun r20 σ21 _ hf H locs hw => ?_)
      refine lv_aload_n hx hb dX10_goAhead_90 rfl (lv_at hl 2 rfl) ?_
      refine lv_iload_n hx hb dX10_goAhead_91 rfl (lv_at hl 3 rfl) ?_
      refine lv_iconst (v := mI 1) hx hb dX10_goAhead_92 rfl ?_
      refine lv_iload_n hx hb dX10_goAhead_93 rfl (lv_at hl 0 rfl) ?_
      refine r_cvv (rest := []) [.int (mI x1), .int (mI 1), .int (mI y14)] X hw (fun ra σa h => c_X10_set l D cy ad bs F o x1 1 y14 σ21 ra σa ho h) ho.1 rfl (by decide) rfl km_X10_set kv_X10_set lm_X10_61 dX10_goAhead_94 hl.1 rfl rfl (Nat.le_of_ble_eq_true rfl) ⟨by decide, by decide⟩ ⟨Nat.zero_le _, Nat.zero_le _⟩ hf (fun r22 σ23 _ hf H locs hw => ?_)
      refine lv_aload_n hx hb dX10_goAhead_97 rfl (lv_at hl 2 rfl) ?_
      refine lv_iload_n hx hb dX10_goAhead_98 rfl (lv_at hl 3 rfl) ?_
      refine lv_bipush (v := mI 8) hx hb dX10_goAhead_99 (by decide) ?_
      refine lv_aload_n hx hb dX10_goAhead_101 rfl (lv_at hl 2 rfl) ?_
      refine lv_iload_n hx hb dX10_goAhead_102 rfl (lv_at hl 3 rfl) ?_
      refine lv_bipush (v := mI 8) hx hb dX10_goAhead_103 (by decide) ?_
      refine r_cvi (rest := [.int (mI 8), .int (mI x1), .ref (ad o)]) [.int (mI x1), .int (mI 8)] X hw (fun ra σa h => c_X10_of l D cy ad bs F o x1 8 σ23 ra σa ho h) ho.1 rfl (by decide) rfl km_X10_of kv_X10_of lm_X10_65 dX10_goAhead_105 hl.1 rfl rfl (Nat.le_of_ble_eq_true rfl) ⟨by decide, by decide⟩ ⟨Nat.zero_le _, Nat.zero_le _⟩ hf (fun r24 σ25 _ hf H locs hw => ?_)
      refine lv_iconst (v := mI 1) hx hb dX10_goAhead_108 rfl ?_
      refine r_iadd X dX10_goAhead_109 ?_
      refine lv_sipush (v := mI 2520) hx hb dX10_goAhead_110 (by decide) ?_
      refine r_irem X dX10_goAhead_113 hf (fun hf => ?_)
      refine r_cvv (rest := []) [.int (mI x1), .int (mI 8), .int (mI ((mw (r24 + 1)).tmod (mw 2520)))] X hw (fun ra σa h => c_X10_set l D cy ad bs F o x1 8 ((mw (r24 + 1)).tmod (mw 2520)) σ25 ra σa ho h) ho.1 rfl (by decide) rfl km_X10_set kv_X10_set lm_X10_61 dX10_goAhead_114 hl.1 rfl rfl (Nat.le_of_ble_eq_true rfl) ⟨by decide, by decide⟩ ⟨Nat.zero_le _, Nat.zero_le _⟩ hf (fun r26 σ27 _ hf H locs hw => ?_)
      refine lv_iload_n hx hb dX10_goAhead_117 rfl (lv_at hl 3 rfl) ?_
      refine r_if_lt (tgt := 137) X dX10_goAhead_118 (by decide) hf (fun hc hf => ?_) (fun hc hf => ?_)
      · exact w_X10_goAhead_b137 X ho hw (lv_sub hl [2, 3] rfl) hf
      · refine lv_iload_n hx hb dX10_goAhead_121 rfl (lv_at hl 3 rfl) ?_
        refine lv_aload_n hx hb dX10_goAhead_122 rfl (lv_at hl 2 rfl) ?_
        refine r_getr (o + 2) X hw ho.1 fd_10_1 rfl rfl lf_X10_17 dX10_goAhead_123 ?_
        refine r_zleni (6 : Int) rfl X hw ho.2.2.1 dX10_goAhead_126 ?_
        refine r_icmp_ge (tgt := 137) X dX10_goAhead_127 (by decide) hf (fun hc hf => ?_) (fun hc hf => ?_)
        · exact w_X10_goAhead_b137 X ho hw (lv_sub hl [2, 3] rfl) hf
        · refine lv_aload_n hx hb dX10_goAhead_130 rfl (lv_at hl 2 rfl) ?_
          refine r_getr (o + 2) X hw ho.1 fd_10_1 rfl rfl lf_X10_17 dX10_goAhead_131 ?_
          refine lv_iload_n hx hb dX10_goAhead_134 rfl (lv_at hl 3 rfl) ?_
          refine lv_iconst (v := mI 1) hx hb dX10_goAhead_135 rfl ?_
          refine r_zast (6 : Int) rfl X hw ho.2.2.1 dX10_goAhead_136 hf (fun hf H locs hw => ?_)
          refine r_mem hf hw (fun σ28 hw hf => ?_)
          exact w_X10_goAhead_b137 X ho hw (lv_sub hl [2, 3] rfl) hf
    · exact w_X10_goAhead_b56 X ho hw (lv_sub hl [2, 3] rfl) hf
def g_J9_max_7cf53_b10 (F : Nat)  (t0 : Int) (σ : mMem) : mRs := some (t0, σ)
set_option maxRecDepth 100000 in
set_option maxHeartbeats 4000000 in
theorem w_J9_max_7cf53_b10 {p : Program} {l : Launch} {e : Env} {s : State} {m : MethodId} {args : Array Value} {below : List Frame} {meth : Method} {c : Code} {D : va_G} {cy : Nat → ClassId} {ad : Nat → Nat} {bs : Nat} {F : Nat}  (X : mCx p m c cJ9_max_7cf53 2 s args RJ9 meth D cy (some .int))  {r : Int} {σ' : mMem}   {t0 : Int} {σ : mMem} {H : Heap} {locs : List Loc} {ls : Array Slot} (hw : mWd D cy ad bs true mN σ s.heap H locs) (hl : lv_has ls 2 []) (hf : g_J9_max_7cf53_b10 F t0 σ = some (r, σ')) : mGi p l e 1 s m args below meth c D cy ad bs r σ' H locs (F0 m 10 ls [.int (mI t0)]) := by
  obtain ⟨⟨hx, hb, -, -, -⟩, -⟩ := id X
  unfold g_J9_max_7cf53_b10 at hf
  exact r_iret X hw dJ9_max_7cf53_10 hf
def g_J9_max_7cf53 (F : Nat) (x0 x1 : Int) (σ : mMem) : mRs := if mw x0 < mw x1 then (g_J9_max_7cf53_b10 F x1 σ) else (g_J9_max_7cf53_b10 F x0 σ)
set_option maxRecDepth 100000 in
set_option maxHeartbeats 4000000 in
theorem c_J9_max_7cf53 (l : Launch) (D : va_G) (cy : Nat → ClassId) (ad : Nat → Nat) (bs : Nat) (F : Nat)  (x0 x1 : Int) (σ : mMem) (r : Int) (σ' : mMem)  (hf : g_J9_max_7cf53 F x0 x1 σ = some (r, σ')) : mCi l D cy ad bs yJ9_max_7cf53 cJ9_max_7cf53 2 (some .int) 1 [.int (mI x0), .int (mI x1)] σ r σ' := by
  refine mCi.of (lv := [(0, .int (mI x0)), (1, .int (mI x1))]) km_J9_max_7cf53.2.2.2.2.2 (Nat.le_of_ble_eq_true rfl) rfl (fun p e s m args below meth c H locs ls X hw hl => ?_)
  obtain ⟨⟨hx, hb, -, -, -⟩, -⟩ := id X
  unfold g_J9_max_7cf53 at hf
  refine lv_iload_n hx hb dJ9_max_7cf53_0 rfl (lv_at hl 0 rfl) ?_
  refine lv_iload_n hx hb dJ9_max_7cf53_1 rfl (lv_at hl 1 rfl) ?_
  refine r_icmp_lt (tgt := 9) X dJ9_max_7cf53_2 (by decide) hf (fun hc hf => ?_) (fun hc hf => ?_)
  · refine lv_iload_n hx hb dJ9_max_7cf53_9 rfl (lv_at hl 1 rfl) ?_
    exact w_J9_max_7cf53_b10 X hw (lv_sub hl [] rfl) hf
  · refine lv_iload_n hx hb dJ9_max_7cf53_5 rfl (lv_at hl 0 rfl) ?_
    refine lv_goto (tgt := 10) hx hb dJ9_max_7cf53_6 (by decide) ?_
    exact w_J9_max_7cf53_b10 X hw (lv_sub hl [] rfl) hf
def g_X5_greyAt_b35 (F : Nat) (o : Nat)  (t0 : Int) (σ : mMem) : mRs := some (t0, σ)
set_option maxRecDepth 100000 in
set_option maxHeartbeats 4000000 in
theorem w_X5_greyAt_b35 {p : Program} {l : Launch} {e : Env} {s : State} {m : MethodId} {args : Array Value} {below : List Frame} {meth : Method} {c : Code} {D : va_G} {cy : Nat → ClassId} {ad : Nat → Nat} {bs : Nat} {F : Nat} {o : Nat} (X : mCx p m c cX5_greyAt 4 s args RX5 meth D cy (some .int)) (ho : mPlan o) {r : Int} {σ' : mMem}   {t0 : Int} {σ : mMem} {H : Heap} {locs : List Loc} {ls : Array Slot} (hw : mWd D cy ad bs true mN σ s.heap H locs) (hl : lv_has ls 4 [(0, .ref (ad o))]) (hf : g_X5_greyAt_b35 F o t0 σ = some (r, σ')) : mGi p l e 2 s m args below meth c D cy ad bs r σ' H locs (F0 m 35 ls [.int (mI t0)]) := by
  obtain ⟨⟨hx, hb, -, -, -⟩, -⟩ := id X
  unfold g_X5_greyAt_b35 at hf
  exact r_iret X hw dX5_greyAt_35 hf
def g_X5_greyAt_b34 (F : Nat) (o : Nat)  (σ : mMem) : mRs := g_X5_greyAt_b35 F o 0 σ
set_option maxRecDepth 100000 in
set_option maxHeartbeats 4000000 in
theorem w_X5_greyAt_b34 {p : Program} {l : Launch} {e : Env} {s : State} {m : MethodId} {args : Array Value} {below : List Frame} {meth : Method} {c : Code} {D : va_G} {cy : Nat → ClassId} {ad : Nat → Nat} {bs : Nat} {F : Nat} {o : Nat} (X : mCx p m c cX5_greyAt 4 s args RX5 meth D cy (some .int)) (ho : mPlan o) {r : Int} {σ' : mMem}    {σ : mMem} {H : Heap} {locs : List Loc} {ls : Array Slot} (hw : mWd D cy ad bs true mN σ s.heap H locs) (hl : lv_has ls 4 [(0, .ref (ad o))]) (hf : g_X5_greyAt_b34 F o  σ = some (r, σ')) : mGi p l e 2 s m args below meth c D cy ad bs r σ' H locs (F0 m 34 ls []) := by
  obtain ⟨⟨hx, hb, -, -, -⟩, -⟩ := id X
  unfold g_X5_greyAt_b34 at hf
  refine lv_iconst (v := mI 0) hx hb dX5_greyAt_34 rfl ?_
  exact w_X5_greyAt_b35 X ho hw (lv_sub hl [0] rfl) hf
def g_X5_greyAt (F : Nat) (o : Nat) (x1 x2 : Int) (σ : mMem) : mRs := mlet ((x2 * 9) + x1) (fun y1 => mob (g_X5_hasCell F o x1 x2 σ) (fun r2 σ3 => if mw r2 = 0 then (g_X5_greyAt_b34 F o σ3) else (if mw 81 ≤ mw y1 then (g_X5_greyAt_b34 F o σ3) else (if 0 ≤ mw y1 ∧ mw y1 < (81 : Int) then g_X5_greyAt_b35 F o (σ3 (o + 1) (mw y1).toNat) σ3 else none))))
set_option maxRecDepth 100000 in
set_option maxHeartbeats 4000000 in
theorem c_X5_greyAt (l : Launch) (D : va_G) (cy : Nat → ClassId) (ad : Nat → Nat) (bs : Nat) (F : Nat) (o : Nat) (x1 x2 : Int) (σ : mMem) (r : Int) (σ' : mMem) (ho : mPlan o) (hf : g_X5_greyAt F o x1 x2 σ = some (r, σ')) : mCi l D cy ad bs yX5_greyAt cX5_greyAt 4 (some .int) 2 [.ref (ad o), .int (mI x1), .int (mI x2)] σ r σ' := by
  refine mCi.of (lv := [(0, .ref (ad o)), (1, .int (mI x1)), (2, .int (mI x2))]) km_X5_greyAt.2.2.2.2.2 (Nat.le_of_ble_eq_true rfl) rfl (fun p e s m args below meth c H locs ls X hw hl => ?_)
  obtain ⟨⟨hx, hb, -, -, -⟩, -⟩ := id X
  unfold g_X5_greyAt at hf
  refine lv_iload_n hx hb dX5_greyAt_0 rfl (lv_at hl 2 rfl) ?_
  refine lv_bipush (v := mI 9) hx hb dX5_greyAt_1 (by decide) ?_
  refine r_imul X dX5_greyAt_3 ?_
  refine lv_iload_n hx hb dX5_greyAt_4 rfl (lv_at hl 1 rfl) ?_
  refine r_iadd X dX5_greyAt_5 ?_
  refine r_leti hf (fun y1 hf => ?_)
  refine lv_istore_n (lv' := [(3, .int (mI y1)), (0, .ref (ad o)), (1, .int (mI x1)), (2, .int (mI x2))]) hx hb dX5_greyAt_6 rfl hl (by decide) rfl (fun ls hl => ?_)
  refine lv_aload_n hx hb dX5_greyAt_7 rfl (lv_at hl 1 rfl) ?_
  refine lv_iload_n hx hb dX5_greyAt_8 rfl (lv_at hl 2 rfl) ?_
  refine lv_iload_n hx hb dX5_greyAt_9 rfl (lv_at hl 3 rfl) ?_
  refine r_cvi (rest := []) [.int (mI x1), .int (mI x2)] X hw (fun ra σa h => c_X5_hasCell l D cy ad bs F o x1 x2 σ ra σa ho h) ho.1 rfl (by decide) rfl km_X5_hasCell kv_X5_hasCell lm_X5_71 dX5_greyAt_10 hl.1 rfl rfl (Nat.le_of_ble_eq_true rfl) ⟨by decide, by decide⟩ ⟨Nat.zero_le _, Nat.zero_le _⟩ hf (fun r2 σ3 _ hf H locs hw => ?_)
  refine r_if_eq (tgt := 34) X dX5_greyAt_13 (by decide) hf (fun hc hf => ?_) (fun hc hf => ?_)
  · exact w_X5_greyAt_b34 X ho hw (lv_sub hl [1] rfl) hf
  · refine lv_iload_n hx hb dX5_greyAt_16 rfl (lv_at hl 0 rfl) ?_
    refine lv_aload_n hx hb dX5_greyAt_17 rfl (lv_at hl 1 rfl) ?_
    refine r_getr (o + 1) X hw ho.1 fd_5_0 rfl rfl lf_X5_11 dX5_greyAt_18 ?_
    refine r_ileni (81 : Int) rfl X hw ho.2.1 dX5_greyAt_21 ?_
    refine r_icmp_ge (tgt := 34) X dX5_greyAt_22 (by decide) hf (fun hc hf => ?_) (fun hc hf => ?_)
    · exact w_X5_greyAt_b34 X ho hw (lv_sub hl [1] rfl) hf
    · refine lv_aload_n hx hb dX5_greyAt_25 rfl (lv_at hl 1 rfl) ?_
      refine r_getr (o + 1) X hw ho.1 fd_5_0 rfl rfl lf_X5_11 dX5_greyAt_26 ?_
      refine lv_iload_n hx hb dX5_greyAt_29 rfl (lv_at hl 0 rfl) ?_
      refine r_iald (81 : Int) rfl X hw ho.2.1 dX5_greyAt_30 hf (fun hf => ?_)
      refine lv_goto (tgt := 35) hx hb dX5_greyAt_31 (by decide) ?_
      exact w_X5_greyAt_b35 X ho hw (lv_sub hl [1] rfl) hf
def g_X10_greySeen (F : Nat) (o : Nat) (x1 x2 : Int) (σ : mMem) : mRs := mob (g_X10_of F o x1 2 σ) (fun r1 σ2 => mlet (mand (r1 + 1) 3) (fun y3 => mob (g_X10_of F o x1 6 σ2) (fun r4 σ5 => mob (g_X10_of F o x1 5 σ5) (fun r6 σ7 => mlet (x2 * r6) (fun y8 => mob (g_X10_of F o x1 0 σ7) (fun r9 σ10 => mob (g_X10_columnStep F r1 σ10) (fun r11 σ12 => mob (g_X10_columnStep F y3 σ12) (fun r13 σ14 => mlet ((r9 + (r4 * r11)) + (y8 * r13)) (fun y15 => mob (g_X10_of F o x1 1 σ14) (fun r16 σ17 => mob (g_X10_rowStep F r1 σ17) (fun r18 σ19 => mob (g_X10_rowStep F y3 σ19) (fun r20 σ21 => mlet ((r16 + (r4 * r18)) + (y8 * r20)) (fun y22 => if σ21 o 3 = 3 ∨ σ21 o 3 = 8 then mob (g_X5_greyAt F (σ21 o 3).toNat y15 y22 σ21) (fun r24 σ25 => mob (g_J9_max_7cf53 F 0 (r24 - (σ25 o 5)) σ25) (fun r26 σ27 => some (r26, σ27))) else none)))))))))))))
set_option maxRecDepth 100000 in
set_option maxHeartbeats 4000000 in
theorem c_X10_greySeen (l : Launch) (D : va_G) (cy : Nat → ClassId) (ad : Nat → Nat) (bs : Nat) (F : Nat) (o : Nat) (x1 x2 : Int) (σ : mMem) (r : Int) (σ' : mMem) (ho : mWorld o) (hf : g_X10_greySeen F o x1 x2 σ = some (r, σ')) : mCi l D cy ad bs yX10_greySeen cX10_greySeen 9 (some .int) 3 [.ref (ad o), .int (mI x1), .int (mI x2)] σ r σ' := by
  refine mCi.of (lv := [(0, .ref (ad o)), (1, .int (mI x1)), (2, .int (mI x2))]) km_X10_greySeen.2.2.2.2.2 (Nat.le_of_ble_eq_true rfl) rfl (fun p e s m args below meth c H locs ls X hw hl => ?_)
  obtain ⟨⟨hx, hb, -, -, -⟩, -⟩ := id X
  unfold g_X10_greySeen at hf
  refine lv_aload_n hx hb dX10_greySeen_0 rfl (lv_at hl 0 rfl) ?_
  refine lv_iload_n hx hb dX10_greySeen_1 rfl (lv_at hl 1 rfl) ?_
  refine lv_iconst (v := mI 2) hx hb dX10_greySeen_2 rfl ?_
  refine r_cvi (rest := []) [.int (mI x1), .int (mI 2)] X hw (fun ra σa h => c_X10_of l D cy ad bs F o x1 2 σ ra σa ho h) ho.1 rfl (by decide) rfl km_X10_of kv_X10_of lm_X10_65 dX10_greySeen_3 hl.1 rfl rfl (Nat.le_of_ble_eq_true rfl) ⟨by decide, by decide⟩ ⟨Nat.zero_le _, Nat.zero_le _⟩ hf (fun r1 σ2 _ hf H locs hw => ?_)
  refine lv_istore_n (lv' := [(3, .int (mI r1)), (0, .ref (ad o)), (1, .int (mI x1)), (2, .int (mI x2))]) hx hb dX10_greySeen_6 rfl hl (by decide) rfl (fun ls hl => ?_)
  refine lv_iload_n hx hb dX10_greySeen_7 rfl (lv_at hl 0 rfl) ?_
  refine lv_iconst (v := mI 1) hx hb dX10_greySeen_8 rfl ?_
  refine r_iadd X dX10_greySeen_9 ?_
  refine lv_iconst (v := mI 3) hx hb dX10_greySeen_10 rfl ?_
  refine r_iand X dX10_greySeen_11 ?_
  refine r_leti hf (fun y3 hf => ?_)
  refine lv_istore (lv' := [(4, .int (mI y3)), (3, .int (mI r1)), (0, .ref (ad o)), (1, .int (mI x1)), (2, .int (mI x2))]) hx hb dX10_greySeen_12 hl (by decide) rfl (fun ls hl => ?_)
  refine lv_aload_n hx hb dX10_greySeen_14 rfl (lv_at hl 2 rfl) ?_
  refine lv_iload_n hx hb dX10_greySeen_15 rfl (lv_at hl 3 rfl) ?_
  refine lv_bipush (v := mI 6) hx hb dX10_greySeen_16 (by decide) ?_
  refine r_cvi (rest := []) [.int (mI x1), .int (mI 6)] X hw (fun ra σa h => c_X10_of l D cy ad bs F o x1 6 σ2 ra σa ho h) ho.1 rfl (by decide) rfl km_X10_of kv_X10_of lm_X10_65 dX10_greySeen_18 hl.1 rfl rfl (Nat.le_of_ble_eq_true rfl) ⟨by decide, by decide⟩ ⟨Nat.zero_le _, Nat.zero_le _⟩ hf (fun r4 σ5 _ hf H locs hw => ?_)
  refine lv_istore (lv' := [(5, .int (mI r4)), (4, .int (mI y3)), (3, .int (mI r1)), (0, .ref (ad o)), (1, .int (mI x1)), (2, .int (mI x2))]) hx hb dX10_greySeen_21 hl (by decide) rfl (fun ls hl => ?_)
  refine lv_iload_n hx hb dX10_greySeen_23 rfl (lv_at hl 5 rfl) ?_
  refine lv_aload_n hx hb dX10_greySeen_24 rfl (lv_at hl 3 rfl) ?_
  refine lv_iload_n hx hb dX10_greySeen_25 rfl (lv_at hl 4 rfl) ?_
  refine lv_iconst (v := mI 5) hx hb dX10_greySeen_26 rfl ?_
  refine r_cvi (rest := [.int (mI x2)]) [.int (mI x1), .int (mI 5)] X hw (fun ra σa h => c_X10_of l D cy ad bs F o x1 5 σ5 ra σa ho h) ho.1 rfl (by decide) rfl km_X10_of kv_X10_of lm_X10_65 dX10_greySeen_27 hl.1 rfl rfl (Nat.le_of_ble_eq_true rfl) ⟨by decide, by decide⟩ ⟨Nat.zero_le _, Nat.zero_le _⟩ hf (fun r6 σ7 _ hf H locs hw => ?_)
  refine r_imul X dX10_greySeen_30 ?_
  refine r_leti hf (fun y8 hf => ?_)
  refine lv_istore (lv' := [(6, .int (mI y8)), (5, .int (mI r4)), (4, .int (mI y3)), (3, .int (mI r1)), (0, .ref (ad o)), (1, .int (mI x1)), (2, .int (mI x2))]) hx hb dX10_greySeen_31 hl (by decide) rfl (fun ls hl => ?_)
  refine lv_aload_n hx hb dX10_greySeen_33 rfl (lv_at hl 4 rfl) ?_
  refine lv_iload_n hx hb dX10_greySeen_34 rfl (lv_at hl 5 rfl) ?_
  refine lv_iconst (v := mI 0) hx hb dX10_greySeen_35 rfl ?_
  refine r_cvi (rest := []) [.int (mI x1), .int (mI 0)] X hw (fun ra σa h => c_X10_of l D cy ad bs F o x1 0 σ7 ra σa ho h) ho.1 rfl (by decide) rfl km_X10_of kv_X10_of lm_X10_65 dX10_greySeen_36 hl.1 rfl rfl (Nat.le_of_ble_eq_true rfl) ⟨by decide, by decide⟩ ⟨Nat.zero_le _, Nat.zero_le _⟩ hf (fun r9 σ10 _ hf H locs hw => ?_)
  refine lv_iload hx hb dX10_greySeen_39 (lv_at hl 1 rfl) ?_
  refine lv_iload_n hx hb dX10_greySeen_41 rfl (lv_at hl 3 rfl) ?_
  refine r_csi (rest := [.int (mI r4), .int (mI r9)]) [.int (mI r1)] X hw (fun ra σa h => c_X10_columnStep l D cy ad bs F r1 σ10 ra σa  h) km_X10_columnStep ks_X10_columnStep lm_X10_95 dX10_greySeen_42 hl.1 rfl rfl (Nat.le_of_ble_eq_true rfl) ⟨by decide, by decide⟩ ⟨Nat.zero_le _, Nat.zero_le _⟩ hf (fun r11 σ12 _ hf H locs hw => ?_)
  refine r_imul X dX10_greySeen_45 ?_
  refine r_iadd X dX10_greySeen_46 ?_
  refine lv_iload hx hb dX10_greySeen_47 (lv_at hl 0 rfl) ?_
  refine lv_iload hx hb dX10_greySeen_49 (lv_at hl 2 rfl) ?_
  refine r_csi (rest := [.int (mI y8), .int (mI (r9 + (r4 * r11)))]) [.int (mI y3)] X hw (fun ra σa h => c_X10_columnStep l D cy ad bs F y3 σ12 ra σa  h) km_X10_columnStep ks_X10_columnStep lm_X10_95 dX10_greySeen_51 hl.1 rfl rfl (Nat.le_of_ble_eq_true rfl) ⟨by decide, by decide⟩ ⟨Nat.zero_le _, Nat.zero_le _⟩ hf (fun r13 σ14 _ hf H locs hw => ?_)
  refine r_imul X dX10_greySeen_54 ?_
  refine r_iadd X dX10_greySeen_55 ?_
  refine r_leti hf (fun y15 hf => ?_)
  refine lv_istore (lv' := [(7, .int (mI y15)), (6, .int (mI y8)), (5, .int (mI r4)), (4, .int (mI y3)), (3, .int (mI r1)), (0, .ref (ad o)), (1, .int (mI x1)), (2, .int (mI x2))]) hx hb dX10_greySeen_56 hl (by decide) rfl (fun ls hl => ?_)
  refine lv_aload_n hx hb dX10_greySeen_58 rfl (lv_at hl 5 rfl) ?_
  refine lv_iload_n hx hb dX10_greySeen_59 rfl (lv_at hl 6 rfl) ?_
  refine lv_iconst (v := mI 1) hx hb dX10_greySeen_60 rfl ?_
  refine r_cvi (rest := []) [.int (mI x1), .int (mI 1)] X hw (fun ra σa h => c_X10_of l D cy ad bs F o x1 1 σ14 ra σa ho h) ho.1 rfl (by decide) rfl km_X10_of kv_X10_of lm_X10_65 dX10_greySeen_61 hl.1 rfl rfl (Nat.le_of_ble_eq_true rfl) ⟨by decide, by decide⟩ ⟨Nat.zero_le _, Nat.zero_le _⟩ hf (fun r16 σ17 _ hf H locs hw => ?_)
  refine lv_iload hx hb dX10_greySeen_64 (lv_at hl 2 rfl) ?_
  refine lv_iload_n hx hb dX10_greySeen_66 rfl (lv_at hl 4 rfl) ?_
  refine r_csi (rest := [.int (mI r4), .int (mI r16)]) [.int (mI r1)] X hw (fun ra σa h => c_X10_rowStep l D cy ad bs F r1 σ17 ra σa  h) km_X10_rowStep ks_X10_rowStep lm_X10_98 dX10_greySeen_67 hl.1 rfl rfl (Nat.le_of_ble_eq_true rfl) ⟨by decide, by decide⟩ ⟨Nat.zero_le _, Nat.zero_le _⟩ hf (fun r18 σ19 _ hf H locs hw => ?_)
  refine r_imul X dX10_greySeen_70 ?_
  refine r_iadd X dX10_greySeen_71 ?_
  refine lv_iload hx hb dX10_greySeen_72 (lv_at hl 1 rfl) ?_
  refine lv_iload hx hb dX10_greySeen_74 (lv_at hl 3 rfl) ?_
  refine r_csi (rest := [.int (mI y8), .int (mI (r16 + (r4 * r18)))]) [.int (mI y3)] X hw (fun ra σa h => c_X10_rowStep l D cy ad bs F y3 σ19 ra σa  h) km_X10_rowStep ks_X10_rowStep lm_X10_98 dX10_greySeen_76 hl.1 rfl rfl (Nat.le_of_ble_eq_true rfl) ⟨by decide, by decide⟩ ⟨Nat.zero_le _, Nat.zero_le _⟩ hf (fun r20 σ21 _ hf H locs hw => ?_)
  refine r_imul X dX10_greySeen_79 ?_
  refine r_iadd X dX10_greySeen_80 ?_
  refine r_leti hf (fun y22 hf => ?_)
  refine lv_istore (lv' := [(8, .int (mI y22)), (7, .int (mI y15)), (6, .int (mI y8)), (5, .int (mI r4)), (4, .int (mI y3)), (3, .int (mI r1)), (0, .ref (ad o)), (1, .int (mI x1)), (2, .int (mI x2))]) hx hb dX10_greySeen_81 hl (by decide) rfl (fun ls hl => ?_)
  refine lv_iconst (v := mI 0) hx hb dX10_greySeen_83 rfl ?_
  refine lv_aload_n hx hb dX10_greySeen_84 rfl (lv_at hl 6 rfl) ?_
  refine r_getp X hw ho.1 fd_10_3 rfl lf_X10_28 dX10_greySeen_85 hf (fun hg23 hf => ?_)
  refine lv_iload hx hb dX10_greySeen_88 (lv_at hl 1 rfl) ?_
  refine lv_iload hx hb dX10_greySeen_90 (lv_at hl 0 rfl) ?_
  refine r_cvi (rest := [.int (mI 0)]) [.int (mI y15), .int (mI y22)] X hw (fun ra σa h => c_X5_greyAt l D cy ad bs F (σ21 o 3).toNat y15 y22 σ21 ra σa (mPlan_z hg23) h) (mPlan_z hg23).1 rfl (by decide) rfl km_X5_greyAt kv_X5_greyAt lm_X10_82 dX10_greySeen_92 hl.1 rfl rfl (Nat.le_of_ble_eq_true rfl) ⟨by decide, by decide⟩ ⟨Nat.zero_le _, Nat.zero_le _⟩ hf (fun r24 σ25 _ hf H locs hw => ?_)
  refine lv_aload_n hx hb dX10_greySeen_95 rfl (lv_at hl 6 rfl) ?_
  refine r_geti X hw ho.1 fd_10_5 rfl lf_X10_36 dX10_greySeen_96 ?_
  refine r_isub X dX10_greySeen_99 ?_
  refine r_csi (rest := []) [.int (mI 0), .int (mI (r24 - (σ25 o 5)))] X hw (fun ra σa h => c_J9_max_7cf53 l D cy ad bs F 0 (r24 - (σ25 o 5)) σ25 ra σa  h) km_J9_max_7cf53 ks_J9_max_7cf53 lm_X10_101 dX10_greySeen_100 hl.1 rfl rfl (Nat.le_of_ble_eq_true rfl) ⟨by decide, by decide⟩ ⟨Nat.zero_le _, Nat.zero_le _⟩ hf (fun r26 σ27 _ hf H locs hw => ?_)
  exact r_iret X hw dX10_greySeen_103 hf
def g_J9_max_f86c9_b11 (F : Nat)  (t0 : Int) (σ : mMem) : mRs := some (t0, σ)
set_option maxRecDepth 100000 in
set_option maxHeartbeats 4000000 in
theorem w_J9_max_f86c9_b11 {p : Program} {l : Launch} {e : Env} {s : State} {m : MethodId} {args : Array Value} {below : List Frame} {meth : Method} {c : Code} {D : va_G} {cy : Nat → ClassId} {ad : Nat → Nat} {bs : Nat} {F : Nat}  (X : mCx p m c cJ9_max_f86c9 4 s args RJ9 meth D cy (some .long))  {r : Int} {σ' : mMem}   {t0 : Int} {σ : mMem} {H : Heap} {locs : List Loc} {ls : Array Slot} (hw : mWd D cy ad bs true mN σ s.heap H locs) (hl : lv_has ls 4 []) (hf : g_J9_max_f86c9_b11 F t0 σ = some (r, σ')) : mGl p l e 1 s m args below meth c D cy ad bs r σ' H locs (F0 m 11 ls [.long (mL t0)]) := by
  obtain ⟨⟨hx, hb, -, -, -⟩, -⟩ := id X
  unfold g_J9_max_f86c9_b11 at hf
  exact r_lret X hw dJ9_max_f86c9_11 hf
def g_J9_max_f86c9 (F : Nat) (x0 x2 : Int) (σ : mMem) : mRs := if mwl x0 < mwl x2 then (g_J9_max_f86c9_b11 F x2 σ) else (g_J9_max_f86c9_b11 F x0 σ)
set_option maxRecDepth 100000 in
set_option maxHeartbeats 4000000 in
theorem c_J9_max_f86c9 (l : Launch) (D : va_G) (cy : Nat → ClassId) (ad : Nat → Nat) (bs : Nat) (F : Nat)  (x0 x2 : Int) (σ : mMem) (r : Int) (σ' : mMem)  (hf : g_J9_max_f86c9 F x0 x2 σ = some (r, σ')) : mCl l D cy ad bs yJ9_max_f86c9 cJ9_max_f86c9 4 (some .long) 1 [.long (mL x0), .long (mL x2)] σ r σ' := by
  refine mCl.of (lv := [(0, .long (mL x0)), (2, .long (mL x2))]) km_J9_max_f86c9.2.2.2.2.2 (Nat.le_of_ble_eq_true rfl) rfl (fun p e s m args below meth c H locs ls X hw hl => ?_)
  obtain ⟨⟨hx, hb, -, -, -⟩, -⟩ := id X
  unfold g_J9_max_f86c9 at hf
  refine lv_lload_n hx hb dJ9_max_f86c9_0 rfl (lv_at hl 0 rfl) ?_
  refine lv_lload_n hx hb dJ9_max_f86c9_1 rfl (lv_at hl 1 rfl) ?_
  refine r_lcmp_lt (tgt := 10) X dJ9_max_f86c9_2 dJ9_max_f86c9_3 (by decide) hf (fun hc hf => ?_) (fun hc hf => ?_)
  · refine lv_lload_n hx hb dJ9_max_f86c9_10 rfl (lv_at hl 1 rfl) ?_
    exact w_J9_max_f86c9_b11 X hw (lv_sub hl [] rfl) hf
  · refine lv_lload_n hx hb dJ9_max_f86c9_6 rfl (lv_at hl 0 rfl) ?_
    refine lv_goto (tgt := 11) hx hb dJ9_max_f86c9_7 (by decide) ?_
    exact w_J9_max_f86c9_b11 X hw (lv_sub hl [] rfl) hf
def g_J9_min_f86c9_b11 (F : Nat)  (t0 : Int) (σ : mMem) : mRs := some (t0, σ)
set_option maxRecDepth 100000 in
set_option maxHeartbeats 4000000 in
theorem w_J9_min_f86c9_b11 {p : Program} {l : Launch} {e : Env} {s : State} {m : MethodId} {args : Array Value} {below : List Frame} {meth : Method} {c : Code} {D : va_G} {cy : Nat → ClassId} {ad : Nat → Nat} {bs : Nat} {F : Nat}  (X : mCx p m c cJ9_min_f86c9 4 s args RJ9 meth D cy (some .long))  {r : Int} {σ' : mMem}   {t0 : Int} {σ : mMem} {H : Heap} {locs : List Loc} {ls : Array Slot} (hw : mWd D cy ad bs true mN σ s.heap H locs) (hl : lv_has ls 4 []) (hf : g_J9_min_f86c9_b11 F t0 σ = some (r, σ')) : mGl p l e 1 s m args below meth c D cy ad bs r σ' H locs (F0 m 11 ls [.long (mL t0)]) := by
  obtain ⟨⟨hx, hb, -, -, -⟩, -⟩ := id X
  unfold g_J9_min_f86c9_b11 at hf
  exact r_lret X hw dJ9_min_f86c9_11 hf
def g_J9_min_f86c9 (F : Nat) (x0 x2 : Int) (σ : mMem) : mRs := if mwl x2 < mwl x0 then (g_J9_min_f86c9_b11 F x2 σ) else (g_J9_min_f86c9_b11 F x0 σ)
set_option maxRecDepth 100000 in
set_option maxHeartbeats 4000000 in
theorem c_J9_min_f86c9 (l : Launch) (D : va_G) (cy : Nat → ClassId) (ad : Nat → Nat) (bs : Nat) (F : Nat)  (x0 x2 : Int) (σ : mMem) (r : Int) (σ' : mMem)  (hf : g_J9_min_f86c9 F x0 x2 σ = some (r, σ')) : mCl l D cy ad bs yJ9_min_f86c9 cJ9_min_f86c9 4 (some .long) 1 [.long (mL x0), .long (mL x2)] σ r σ' := by
  refine mCl.of (lv := [(0, .long (mL x0)), (2, .long (mL x2))]) km_J9_min_f86c9.2.2.2.2.2 (Nat.le_of_ble_eq_true rfl) rfl (fun p e s m args below meth c H locs ls X hw hl => ?_)
  obtain ⟨⟨hx, hb, -, -, -⟩, -⟩ := id X
  unfold g_J9_min_f86c9 at hf
  refine lv_lload_n hx hb dJ9_min_f86c9_0 rfl (lv_at hl 0 rfl) ?_
  refine lv_lload_n hx hb dJ9_min_f86c9_1 rfl (lv_at hl 1 rfl) ?_
  refine r_lcmp_gt (tgt := 10) X dJ9_min_f86c9_2 dJ9_min_f86c9_3 (by decide) hf (fun hc hf => ?_) (fun hc hf => ?_)
  · refine lv_lload_n hx hb dJ9_min_f86c9_10 rfl (lv_at hl 1 rfl) ?_
    exact w_J9_min_f86c9_b11 X hw (lv_sub hl [] rfl) hf
  · refine lv_lload_n hx hb dJ9_min_f86c9_6 rfl (lv_at hl 0 rfl) ?_
    refine lv_goto (tgt := 11) hx hb dJ9_min_f86c9_7 (by decide) ?_
    exact w_J9_min_f86c9_b11 X hw (lv_sub hl [] rfl) hf
def g_J9_floorDiv_f86c9_b27 (F : Nat)  (x4 : Int) (σ : mMem) : mRs := some (x4, σ)
set_option maxRecDepth 100000 in
set_option maxHeartbeats 4000000 in
theorem w_J9_floorDiv_f86c9_b27 {p : Program} {l : Launch} {e : Env} {s : State} {m : MethodId} {args : Array Value} {below : List Frame} {meth : Method} {c : Code} {D : va_G} {cy : Nat → ClassId} {ad : Nat → Nat} {bs : Nat} {F : Nat}  (X : mCx p m c cJ9_floorDiv_f86c9 6 s args RJ9 meth D cy (some .long))  {r : Int} {σ' : mMem}   {x4 : Int} {σ : mMem} {H : Heap} {locs : List Loc} {ls : Array Slot} (hw : mWd D cy ad bs true mN σ s.heap H locs) (hl : lv_has ls 6 [(4, .long (mL x4))]) (hf : g_J9_floorDiv_f86c9_b27 F x4 σ = some (r, σ')) : mGl p l e 1 s m args below meth c D cy ad bs r σ' H locs (F0 m 27 ls []) := by
  obtain ⟨⟨hx, hb, -, -, -⟩, -⟩ := id X
  unfold g_J9_floorDiv_f86c9_b27 at hf
  refine lv_lload hx hb dJ9_floorDiv_f86c9_27 (lv_at hl 0 rfl) ?_
  exact r_lret X hw dJ9_floorDiv_f86c9_29 hf
def g_J9_floorDiv_f86c9 (F : Nat) (x0 x2 : Int) (σ : mMem) : mRs := if mwl x2 = 0 then none else (mlet ((mwl x0).tdiv (mwl x2)) (fun y1 => if mwl 0 ≤ mwl (mlxor x0 x2) then (g_J9_floorDiv_f86c9_b27 F y1 σ) else (if mwl (y1 * x2) = mwl x0 then (g_J9_floorDiv_f86c9_b27 F y1 σ) else (some (y1 - 1, σ)))))
set_option maxRecDepth 100000 in
set_option maxHeartbeats 4000000 in
theorem c_J9_floorDiv_f86c9 (l : Launch) (D : va_G) (cy : Nat → ClassId) (ad : Nat → Nat) (bs : Nat) (F : Nat)  (x0 x2 : Int) (σ : mMem) (r : Int) (σ' : mMem)  (hf : g_J9_floorDiv_f86c9 F x0 x2 σ = some (r, σ')) : mCl l D cy ad bs yJ9_floorDiv_f86c9 cJ9_floorDiv_f86c9 6 (some .long) 1 [.long (mL x0), .long (mL x2)] σ r σ' := by
  refine mCl.of (lv := [(0, .long (mL x0)), (2, .long (mL x2))]) km_J9_floorDiv_f86c9.2.2.2.2.2 (Nat.le_of_ble_eq_true rfl) rfl (fun p e s m args below meth c H locs ls X hw hl => ?_)
  obtain ⟨⟨hx, hb, -, -, -⟩, -⟩ := id X
  unfold g_J9_floorDiv_f86c9 at hf
  refine lv_lload_n hx hb dJ9_floorDiv_f86c9_0 rfl (lv_at hl 0 rfl) ?_
  refine lv_lload_n hx hb dJ9_floorDiv_f86c9_1 rfl (lv_at hl 1 rfl) ?_
  refine r_ldiv X dJ9_floorDiv_f86c9_2 hf (fun hf => ?_)
  refine r_letl hf (fun y1 hf => ?_)
  refine lv_lstore (lv' := [(4, .long (mL y1)), (0, .long (mL x0)), (2, .long (mL x2))]) hx hb dJ9_floorDiv_f86c9_3 hl (by decide) rfl (fun ls hl => ?_)
  refine lv_lload_n hx hb dJ9_floorDiv_f86c9_5 rfl (lv_at hl 1 rfl) ?_
  refine lv_lload_n hx hb dJ9_floorDiv_f86c9_6 rfl (lv_at hl 2 rfl) ?_
  refine r_lxor X dJ9_floorDiv_f86c9_7 ?_
  refine lv_lconst (v := mL 0) hx hb dJ9_floorDiv_f86c9_8 (by decide) ?_
  refine r_lcmp_ge (tgt := 27) X dJ9_floorDiv_f86c9_9 dJ9_floorDiv_f86c9_10 (by decide) hf (fun hc hf => ?_) (fun hc hf => ?_)
  · exact w_J9_floorDiv_f86c9_b27 X hw (lv_sub hl [0] rfl) hf
  · refine lv_lload hx hb dJ9_floorDiv_f86c9_13 (lv_at hl 0 rfl) ?_
    refine lv_lload_n hx hb dJ9_floorDiv_f86c9_15 rfl (lv_at hl 2 rfl) ?_
    refine r_lmul X dJ9_floorDiv_f86c9_16 ?_
    refine lv_lload_n hx hb dJ9_floorDiv_f86c9_17 rfl (lv_at hl 1 rfl) ?_
    refine r_lcmp_eq (tgt := 27) X dJ9_floorDiv_f86c9_18 dJ9_floorDiv_f86c9_19 (by decide) hf (fun hc hf => ?_) (fun hc hf => ?_)
    · exact w_J9_floorDiv_f86c9_b27 X hw (lv_sub hl [0] rfl) hf
    · refine lv_lload hx hb dJ9_floorDiv_f86c9_22 (lv_at hl 0 rfl) ?_
      refine lv_lconst (v := mL 1) hx hb dJ9_floorDiv_f86c9_24 (by decide) ?_
      refine r_lsub X dJ9_floorDiv_f86c9_25 ?_
      exact r_lret X hw dJ9_floorDiv_f86c9_26 hf
def g_J9_floorMod_f86c9_b25 (F : Nat)  (x4 : Int) (σ : mMem) : mRs := some (x4, σ)
set_option maxRecDepth 100000 in
set_option maxHeartbeats 4000000 in
theorem w_J9_floorMod_f86c9_b25 {p : Program} {l : Launch} {e : Env} {s : State} {m : MethodId} {args : Array Value} {below : List Frame} {meth : Method} {c : Code} {D : va_G} {cy : Nat → ClassId} {ad : Nat → Nat} {bs : Nat} {F : Nat}  (X : mCx p m c cJ9_floorMod_f86c9 6 s args RJ9 meth D cy (some .long))  {r : Int} {σ' : mMem}   {x4 : Int} {σ : mMem} {H : Heap} {locs : List Loc} {ls : Array Slot} (hw : mWd D cy ad bs true mN σ s.heap H locs) (hl : lv_has ls 6 [(4, .long (mL x4))]) (hf : g_J9_floorMod_f86c9_b25 F x4 σ = some (r, σ')) : mGl p l e 1 s m args below meth c D cy ad bs r σ' H locs (F0 m 25 ls []) := by
  obtain ⟨⟨hx, hb, -, -, -⟩, -⟩ := id X
  unfold g_J9_floorMod_f86c9_b25 at hf
  refine lv_lload hx hb dJ9_floorMod_f86c9_25 (lv_at hl 0 rfl) ?_
  exact r_lret X hw dJ9_floorMod_f86c9_27 hf
def g_J9_floorMod_f86c9 (F : Nat) (x0 x2 : Int) (σ : mMem) : mRs := if mwl x2 = 0 then none else (mlet ((mwl x0).tmod (mwl x2)) (fun y1 => if mwl 0 ≤ mwl (mlxor x0 x2) then (g_J9_floorMod_f86c9_b25 F y1 σ) else (if mwl y1 = mwl 0 then (g_J9_floorMod_f86c9_b25 F y1 σ) else (some (y1 + x2, σ)))))
set_option maxRecDepth 100000 in
set_option maxHeartbeats 4000000 in
theorem c_J9_floorMod_f86c9 (l : Launch) (D : va_G) (cy : Nat → ClassId) (ad : Nat → Nat) (bs : Nat) (F : Nat)  (x0 x2 : Int) (σ : mMem) (r : Int) (σ' : mMem)  (hf : g_J9_floorMod_f86c9 F x0 x2 σ = some (r, σ')) : mCl l D cy ad bs yJ9_floorMod_f86c9 cJ9_floorMod_f86c9 6 (some .long) 1 [.long (mL x0), .long (mL x2)] σ r σ' := by
  refine mCl.of (lv := [(0, .long (mL x0)), (2, .long (mL x2))]) km_J9_floorMod_f86c9.2.2.2.2.2 (Nat.le_of_ble_eq_true rfl) rfl (fun p e s m args below meth c H locs ls X hw hl => ?_)
  obtain ⟨⟨hx, hb, -, -, -⟩, -⟩ := id X
  unfold g_J9_floorMod_f86c9 at hf
  refine lv_lload_n hx hb dJ9_floorMod_f86c9_0 rfl (lv_at hl 0 rfl) ?_
  refine lv_lload_n hx hb dJ9_floorMod_f86c9_1 rfl (lv_at hl 1 rfl) ?_
  refine r_lrem X dJ9_floorMod_f86c9_2 hf (fun hf => ?_)
  refine r_letl hf (fun y1 hf => ?_)
  refine lv_lstore (lv' := [(4, .long (mL y1)), (0, .long (mL x0)), (2, .long (mL x2))]) hx hb dJ9_floorMod_f86c9_3 hl (by decide) rfl (fun ls hl => ?_)
  refine lv_lload_n hx hb dJ9_floorMod_f86c9_5 rfl (lv_at hl 1 rfl) ?_
  refine lv_lload_n hx hb dJ9_floorMod_f86c9_6 rfl (lv_at hl 2 rfl) ?_
  refine r_lxor X dJ9_floorMod_f86c9_7 ?_
  refine lv_lconst (v := mL 0) hx hb dJ9_floorMod_f86c9_8 (by decide) ?_
  refine r_lcmp_ge (tgt := 25) X dJ9_floorMod_f86c9_9 dJ9_floorMod_f86c9_10 (by decide) hf (fun hc hf => ?_) (fun hc hf => ?_)
  · exact w_J9_floorMod_f86c9_b25 X hw (lv_sub hl [0] rfl) hf
  · refine lv_lload hx hb dJ9_floorMod_f86c9_13 (lv_at hl 0 rfl) ?_
    refine lv_lconst (v := mL 0) hx hb dJ9_floorMod_f86c9_15 (by decide) ?_
    refine r_lcmp_eq (tgt := 25) X dJ9_floorMod_f86c9_16 dJ9_floorMod_f86c9_17 (by decide) hf (fun hc hf => ?_) (fun hc hf => ?_)
    · exact w_J9_floorMod_f86c9_b25 X hw (lv_sub hl [0] rfl) hf
    · refine lv_lload hx hb dJ9_floorMod_f86c9_20 (lv_at hl 0 rfl) ?_
      refine lv_lload_n hx hb dJ9_floorMod_f86c9_22 rfl (lv_at hl 2 rfl) ?_
      refine r_ladd X dJ9_floorMod_f86c9_23 ?_
      exact r_lret X hw dJ9_floorMod_f86c9_24 hf
def g_X2_joined_b211 (F : Nat)  (t0 : Int) (σ : mMem) : mRs := some (t0, σ)
set_option maxRecDepth 100000 in
set_option maxHeartbeats 4000000 in
theorem w_X2_joined_b211 {p : Program} {l : Launch} {e : Env} {s : State} {m : MethodId} {args : Array Value} {below : List Frame} {meth : Method} {c : Code} {D : va_G} {cy : Nat → ClassId} {ad : Nat → Nat} {bs : Nat} {F : Nat}  (X : mCx p m c cX2_joined 5 s args RX2 meth D cy (some .long))  {r : Int} {σ' : mMem}   {t0 : Int} {σ : mMem} {H : Heap} {locs : List Loc} {ls : Array Slot} (hw : mWd D cy ad bs true mN σ s.heap H locs) (hl : lv_has ls 5 []) (hf : g_X2_joined_b211 F t0 σ = some (r, σ')) : mGl p l e 2 s m args below meth c D cy ad bs r σ' H locs (F0 m 211 ls [.long (mL t0)]) := by
  obtain ⟨⟨hx, hb, -, -, -⟩, -⟩ := id X
  unfold g_X2_joined_b211 at hf
  exact r_lret X hw dX2_joined_211 hf
def g_X2_joined_b99 (F : Nat)  (t0 : Int) (σ : mMem) : mRs := some (t0, σ)
set_option maxRecDepth 100000 in
set_option maxHeartbeats 4000000 in
theorem w_X2_joined_b99 {p : Program} {l : Launch} {e : Env} {s : State} {m : MethodId} {args : Array Value} {below : List Frame} {meth : Method} {c : Code} {D : va_G} {cy : Nat → ClassId} {ad : Nat → Nat} {bs : Nat} {F : Nat}  (X : mCx p m c cX2_joined 5 s args RX2 meth D cy (some .long))  {r : Int} {σ' : mMem}   {t0 : Int} {σ : mMem} {H : Heap} {locs : List Loc} {ls : Array Slot} (hw : mWd D cy ad bs true mN σ s.heap H locs) (hl : lv_has ls 5 []) (hf : g_X2_joined_b99 F t0 σ = some (r, σ')) : mGl p l e 2 s m args below meth c D cy ad bs r σ' H locs (F0 m 99 ls [.long (mL t0)]) := by
  obtain ⟨⟨hx, hb, -, -, -⟩, -⟩ := id X
  unfold g_X2_joined_b99 at hf
  exact r_lret X hw dX2_joined_99 hf
def g_X2_joined_b115 (F : Nat)  (t0 : Int) (σ : mMem) : mRs := some (t0, σ)
set_option maxRecDepth 100000 in
set_option maxHeartbeats 4000000 in
theorem w_X2_joined_b115 {p : Program} {l : Launch} {e : Env} {s : State} {m : MethodId} {args : Array Value} {below : List Frame} {meth : Method} {c : Code} {D : va_G} {cy : Nat → ClassId} {ad : Nat → Nat} {bs : Nat} {F : Nat}  (X : mCx p m c cX2_joined 5 s args RX2 meth D cy (some .long))  {r : Int} {σ' : mMem}   {t0 : Int} {σ : mMem} {H : Heap} {locs : List Loc} {ls : Array Slot} (hw : mWd D cy ad bs true mN σ s.heap H locs) (hl : lv_has ls 5 []) (hf : g_X2_joined_b115 F t0 σ = some (r, σ')) : mGl p l e 2 s m args below meth c D cy ad bs r σ' H locs (F0 m 115 ls [.long (mL t0)]) := by
  obtain ⟨⟨hx, hb, -, -, -⟩, -⟩ := id X
  unfold g_X2_joined_b115 at hf
  exact r_lret X hw dX2_joined_115 hf
def g_X2_joined_b139 (F : Nat)  (t0 : Int) (σ : mMem) : mRs := some (t0, σ)
set_option maxRecDepth 100000 in
set_option maxHeartbeats 4000000 in
theorem w_X2_joined_b139 {p : Program} {l : Launch} {e : Env} {s : State} {m : MethodId} {args : Array Value} {below : List Frame} {meth : Method} {c : Code} {D : va_G} {cy : Nat → ClassId} {ad : Nat → Nat} {bs : Nat} {F : Nat}  (X : mCx p m c cX2_joined 5 s args RX2 meth D cy (some .long))  {r : Int} {σ' : mMem}   {t0 : Int} {σ : mMem} {H : Heap} {locs : List Loc} {ls : Array Slot} (hw : mWd D cy ad bs true mN σ s.heap H locs) (hl : lv_has ls 5 []) (hf : g_X2_joined_b139 F t0 σ = some (r, σ')) : mGl p l e 2 s m args below meth c D cy ad bs r σ' H locs (F0 m 139 ls [.long (mL t0)]) := by
  obtain ⟨⟨hx, hb, -, -, -⟩, -⟩ := id X
  unfold g_X2_joined_b139 at hf
  exact r_lret X hw dX2_joined_139 hf
def g_X2_joined_b151 (F : Nat)  (t0 : Int) (σ : mMem) : mRs := some (t0, σ)
set_option maxRecDepth 100000 in
set_option maxHeartbeats 4000000 in
theorem w_X2_joined_b151 {p : Program} {l : Launch} {e : Env} {s : State} {m : MethodId} {args : Array Value} {below : List Frame} {meth : Method} {c : Code} {D : va_G} {cy : Nat → ClassId} {ad : Nat → Nat} {bs : Nat} {F : Nat}  (X : mCx p m c cX2_joined 5 s args RX2 meth D cy (some .long))  {r : Int} {σ' : mMem}   {t0 : Int} {σ : mMem} {H : Heap} {locs : List Loc} {ls : Array Slot} (hw : mWd D cy ad bs true mN σ s.heap H locs) (hl : lv_has ls 5 []) (hf : g_X2_joined_b151 F t0 σ = some (r, σ')) : mGl p l e 2 s m args below meth c D cy ad bs r σ' H locs (F0 m 151 ls [.long (mL t0)]) := by
  obtain ⟨⟨hx, hb, -, -, -⟩, -⟩ := id X
  unfold g_X2_joined_b151 at hf
  exact r_lret X hw dX2_joined_151 hf
def g_X2_joined_b163 (F : Nat)  (t0 : Int) (σ : mMem) : mRs := some (t0, σ)
set_option maxRecDepth 100000 in
set_option maxHeartbeats 4000000 in
theorem w_X2_joined_b163 {p : Program} {l : Launch} {e : Env} {s : State} {m : MethodId} {args : Array Value} {below : List Frame} {meth : Method} {c : Code} {D : va_G} {cy : Nat → ClassId} {ad : Nat → Nat} {bs : Nat} {F : Nat}  (X : mCx p m c cX2_joined 5 s args RX2 meth D cy (some .long))  {r : Int} {σ' : mMem}   {t0 : Int} {σ : mMem} {H : Heap} {locs : List Loc} {ls : Array Slot} (hw : mWd D cy ad bs true mN σ s.heap H locs) (hl : lv_has ls 5 []) (hf : g_X2_joined_b163 F t0 σ = some (r, σ')) : mGl p l e 2 s m args below meth c D cy ad bs r σ' H locs (F0 m 163 ls [.long (mL t0)]) := by
  obtain ⟨⟨hx, hb, -, -, -⟩, -⟩ := id X
  unfold g_X2_joined_b163 at hf
  exact r_lret X hw dX2_joined_163 hf
def g_X2_joined_b181 (F : Nat)  (t0 : Int) (σ : mMem) : mRs := some (t0, σ)
set_option maxRecDepth 100000 in
set_option maxHeartbeats 4000000 in
theorem w_X2_joined_b181 {p : Program} {l : Launch} {e : Env} {s : State} {m : MethodId} {args : Array Value} {below : List Frame} {meth : Method} {c : Code} {D : va_G} {cy : Nat → ClassId} {ad : Nat → Nat} {bs : Nat} {F : Nat}  (X : mCx p m c cX2_joined 5 s args RX2 meth D cy (some .long))  {r : Int} {σ' : mMem}   {t0 : Int} {σ : mMem} {H : Heap} {locs : List Loc} {ls : Array Slot} (hw : mWd D cy ad bs true mN σ s.heap H locs) (hl : lv_has ls 5 []) (hf : g_X2_joined_b181 F t0 σ = some (r, σ')) : mGl p l e 2 s m args below meth c D cy ad bs r σ' H locs (F0 m 181 ls [.long (mL t0)]) := by
  obtain ⟨⟨hx, hb, -, -, -⟩, -⟩ := id X
  unfold g_X2_joined_b181 at hf
  exact r_lret X hw dX2_joined_181 hf
def g_X2_joined_b180 (F : Nat)  (σ : mMem) : mRs := g_X2_joined_b181 F 0 σ
set_option maxRecDepth 100000 in
set_option maxHeartbeats 4000000 in
theorem w_X2_joined_b180 {p : Program} {l : Launch} {e : Env} {s : State} {m : MethodId} {args : Array Value} {below : List Frame} {meth : Method} {c : Code} {D : va_G} {cy : Nat → ClassId} {ad : Nat → Nat} {bs : Nat} {F : Nat}  (X : mCx p m c cX2_joined 5 s args RX2 meth D cy (some .long))  {r : Int} {σ' : mMem}    {σ : mMem} {H : Heap} {locs : List Loc} {ls : Array Slot} (hw : mWd D cy ad bs true mN σ s.heap H locs) (hl : lv_has ls 5 []) (hf : g_X2_joined_b180 F  σ = some (r, σ')) : mGl p l e 2 s m args below meth c D cy ad bs r σ' H locs (F0 m 180 ls []) := by
  obtain ⟨⟨hx, hb, -, -, -⟩, -⟩ := id X
  unfold g_X2_joined_b180 at hf
  refine lv_lconst (v := mL 0) hx hb dX2_joined_180 (by decide) ?_
  exact w_X2_joined_b181 X hw (lv_sub hl [] rfl) hf
def g_X2_joined_b199 (F : Nat)  (t0 : Int) (σ : mMem) : mRs := some (t0, σ)
set_option maxRecDepth 100000 in
set_option maxHeartbeats 4000000 in
theorem w_X2_joined_b199 {p : Program} {l : Launch} {e : Env} {s : State} {m : MethodId} {args : Array Value} {below : List Frame} {meth : Method} {c : Code} {D : va_G} {cy : Nat → ClassId} {ad : Nat → Nat} {bs : Nat} {F : Nat}  (X : mCx p m c cX2_joined 5 s args RX2 meth D cy (some .long))  {r : Int} {σ' : mMem}   {t0 : Int} {σ : mMem} {H : Heap} {locs : List Loc} {ls : Array Slot} (hw : mWd D cy ad bs true mN σ s.heap H locs) (hl : lv_has ls 5 []) (hf : g_X2_joined_b199 F t0 σ = some (r, σ')) : mGl p l e 2 s m args below meth c D cy ad bs r σ' H locs (F0 m 199 ls [.long (mL t0)]) := by
  obtain ⟨⟨hx, hb, -, -, -⟩, -⟩ := id X
  unfold g_X2_joined_b199 at hf
  exact r_lret X hw dX2_joined_199 hf
def g_X2_joined_b194 (F : Nat)  (σ : mMem) : mRs := g_X2_joined_b199 F 1 σ
set_option maxRecDepth 100000 in
set_option maxHeartbeats 4000000 in
theorem w_X2_joined_b194 {p : Program} {l : Launch} {e : Env} {s : State} {m : MethodId} {args : Array Value} {below : List Frame} {meth : Method} {c : Code} {D : va_G} {cy : Nat → ClassId} {ad : Nat → Nat} {bs : Nat} {F : Nat}  (X : mCx p m c cX2_joined 5 s args RX2 meth D cy (some .long))  {r : Int} {σ' : mMem}    {σ : mMem} {H : Heap} {locs : List Loc} {ls : Array Slot} (hw : mWd D cy ad bs true mN σ s.heap H locs) (hl : lv_has ls 5 []) (hf : g_X2_joined_b194 F  σ = some (r, σ')) : mGl p l e 2 s m args below meth c D cy ad bs r σ' H locs (F0 m 194 ls []) := by
  obtain ⟨⟨hx, hb, -, -, -⟩, -⟩ := id X
  unfold g_X2_joined_b194 at hf
  refine lv_lconst (v := mL 1) hx hb dX2_joined_194 (by decide) ?_
  refine lv_goto (tgt := 199) hx hb dX2_joined_195 (by decide) ?_
  exact w_X2_joined_b199 X hw (lv_sub hl [] rfl) hf
def g_X2_joined (F : Nat) (x0 x1 x3 : Int) (σ : mMem) : mRs := if mw x0 = 2 then (if ¬ mwl x1 = mwl 0 then (g_X2_joined_b211 F 0 σ) else (g_X2_joined_b211 F 1 σ)) else (if mw x0 = 3 then (some (x1 + x3, σ)) else (if mw x0 = 4 then (some (x1 - x3, σ)) else (if mw x0 = 5 then (some (x1 * x3, σ)) else (if mw x0 = 6 then (if ¬ mwl x3 = mwl 0 then (mob (g_J9_floorDiv_f86c9 F x1 x3 σ) (fun r1 σ2 => g_X2_joined_b99 F r1 σ2)) else (g_X2_joined_b99 F 0 σ)) else (if mw x0 = 7 then (if ¬ mwl x3 = mwl 0 then (mob (g_J9_floorMod_f86c9 F x1 x3 σ) (fun r3 σ4 => g_X2_joined_b115 F r3 σ4)) else (g_X2_joined_b115 F 0 σ)) else (if mw x0 = 8 then (mob (g_J9_min_f86c9 F x1 x3 σ) (fun r5 σ6 => some (r5, σ6))) else (if mw x0 = 9 then (mob (g_J9_max_f86c9 F x1 x3 σ) (fun r7 σ8 => some (r7, σ8))) else (if mw x0 = 10 then (if mwl x3 ≤ mwl x1 then (g_X2_joined_b139 F 0 σ) else (g_X2_joined_b139 F 1 σ)) else (if mw x0 = 11 then (if mwl x1 ≤ mwl x3 then (g_X2_joined_b151 F 0 σ) else (g_X2_joined_b151 F 1 σ)) else (if mw x0 = 12 then (if ¬ mwl x1 = mwl x3 then (g_X2_joined_b163 F 0 σ) else (g_X2_joined_b163 F 1 σ)) else (if mw x0 = 13 then (if mwl x1 = mwl 0 then (g_X2_joined_b180 F σ) else (if mwl x3 = mwl 0 then (g_X2_joined_b180 F σ) else (g_X2_joined_b181 F 1 σ))) else (if mw x0 = 14 then (if ¬ mwl x1 = mwl 0 then (g_X2_joined_b194 F σ) else (if mwl x3 = mwl 0 then (g_X2_joined_b199 F 0 σ) else (g_X2_joined_b194 F σ))) else (if mw x0 = 15 then (some (x3, σ)) else (some (x1, σ)))))))))))))))
set_option maxRecDepth 100000 in
set_option maxHeartbeats 4000000 in
theorem c_X2_joined (l : Launch) (D : va_G) (cy : Nat → ClassId) (ad : Nat → Nat) (bs : Nat) (F : Nat)  (x0 x1 x3 : Int) (σ : mMem) (r : Int) (σ' : mMem)  (hf : g_X2_joined F x0 x1 x3 σ = some (r, σ')) : mCl l D cy ad bs yX2_joined cX2_joined 5 (some .long) 2 [.int (mI x0), .long (mL x1), .long (mL x3)] σ r σ' := by
  refine mCl.of (lv := [(0, .int (mI x0)), (1, .long (mL x1)), (3, .long (mL x3))]) km_X2_joined.2.2.2.2.2 (Nat.le_of_ble_eq_true rfl) rfl (fun p e s m args below meth c H locs ls X hw hl => ?_)
  obtain ⟨⟨hx, hb, -, -, -⟩, -⟩ := id X
  unfold g_X2_joined at hf
  refine lv_iload_n hx hb dX2_joined_0 rfl (lv_at hl 0 rfl) ?_
  refine r_case hf (fun hc2 hf => ?_) (fun hc2 hf => ?_)
  · refine r_tin (k := 2) (off := 199) (tgt := 200) X dX2_joined_1 hc2 (by decide) (by decide) rfl (by decide) ?_
    refine lv_lload_n hx hb dX2_joined_200 rfl (lv_at hl 1 rfl) ?_
    refine lv_lconst (v := mL 0) hx hb dX2_joined_201 (by decide) ?_
    refine r_lcmp_ne (tgt := 210) X dX2_joined_202 dX2_joined_203 (by decide) hf (fun hc hf => ?_) (fun hc hf => ?_)
    · refine lv_lconst (v := mL 0) hx hb dX2_joined_210 (by decide) ?_
      exact w_X2_joined_b211 X hw (lv_sub hl [] rfl) hf
    · refine lv_lconst (v := mL 1) hx hb dX2_joined_206 (by decide) ?_
      refine lv_goto (tgt := 211) hx hb dX2_joined_207 (by decide) ?_
      exact w_X2_joined_b211 X hw (lv_sub hl [] rfl) hf
  refine r_case hf (fun hc3 hf => ?_) (fun hc3 hf => ?_)
  · refine r_tin (k := 3) (off := 71) (tgt := 72) X dX2_joined_1 hc3 (by decide) (by decide) rfl (by decide) ?_
    refine lv_lload_n hx hb dX2_joined_72 rfl (lv_at hl 1 rfl) ?_
    refine lv_lload_n hx hb dX2_joined_73 rfl (lv_at hl 2 rfl) ?_
    refine r_ladd X dX2_joined_74 ?_
    exact r_lret X hw dX2_joined_75 hf
  refine r_case hf (fun hc4 hf => ?_) (fun hc4 hf => ?_)
  · refine r_tin (k := 4) (off := 75) (tgt := 76) X dX2_joined_1 hc4 (by decide) (by decide) rfl (by decide) ?_
    refine lv_lload_n hx hb dX2_joined_76 rfl (lv_at hl 1 rfl) ?_
    refine lv_lload_n hx hb dX2_joined_77 rfl (lv_at hl 2 rfl) ?_
    refine r_lsub X dX2_joined_78 ?_
    exact r_lret X hw dX2_joined_79 hf
  refine r_case hf (fun hc5 hf => ?_) (fun hc5 hf => ?_)
  · refine r_tin (k := 5) (off := 79) (tgt := 80) X dX2_joined_1 hc5 (by decide) (by decide) rfl (by decide) ?_
    refine lv_lload_n hx hb dX2_joined_80 rfl (lv_at hl 1 rfl) ?_
    refine lv_lload_n hx hb dX2_joined_81 rfl (lv_at hl 2 rfl) ?_
    refine r_lmul X dX2_joined_82 ?_
    exact r_lret X hw dX2_joined_83 hf
  refine r_case hf (fun hc6 hf => ?_) (fun hc6 hf => ?_)
  · refine r_tin (k := 6) (off := 83) (tgt := 84) X dX2_joined_1 hc6 (by decide) (by decide) rfl (by decide) ?_
    refine lv_lload_n hx hb dX2_joined_84 rfl (lv_at hl 2 rfl) ?_
    refine lv_lconst (v := mL 0) hx hb dX2_joined_85 (by decide) ?_
    refine r_lcmp_ne (tgt := 94) X dX2_joined_86 dX2_joined_87 (by decide) hf (fun hc hf => ?_) (fun hc hf => ?_)
    · refine lv_lload_n hx hb dX2_joined_94 rfl (lv_at hl 1 rfl) ?_
      refine lv_lload_n hx hb dX2_joined_95 rfl (lv_at hl 2 rfl) ?_
      refine r_csl (rest := []) [.long (mL x1), .long (mL x3)] X hw (fun ra σa h => c_J9_floorDiv_f86c9 l D cy ad bs F x1 x3 σ ra σa  h) km_J9_floorDiv_f86c9 ks_J9_floorDiv_f86c9 lm_X2_45 dX2_joined_96 hl.1 rfl rfl (Nat.le_of_ble_eq_true rfl) ⟨by decide, by decide⟩ ⟨Nat.zero_le _, Nat.zero_le _⟩ hf (fun r1 σ2 _ hf H locs hw => ?_)
      exact w_X2_joined_b99 X hw (lv_sub hl [] rfl) hf
    · refine lv_lconst (v := mL 0) hx hb dX2_joined_90 (by decide) ?_
      refine lv_goto (tgt := 99) hx hb dX2_joined_91 (by decide) ?_
      exact w_X2_joined_b99 X hw (lv_sub hl [] rfl) hf
  refine r_case hf (fun hc7 hf => ?_) (fun hc7 hf => ?_)
  · refine r_tin (k := 7) (off := 99) (tgt := 100) X dX2_joined_1 hc7 (by decide) (by decide) rfl (by decide) ?_
    refine lv_lload_n hx hb dX2_joined_100 rfl (lv_at hl 2 rfl) ?_
    refine lv_lconst (v := mL 0) hx hb dX2_joined_101 (by decide) ?_
    refine r_lcmp_ne (tgt := 110) X dX2_joined_102 dX2_joined_103 (by decide) hf (fun hc hf => ?_) (fun hc hf => ?_)
    · refine lv_lload_n hx hb dX2_joined_110 rfl (lv_at hl 1 rfl) ?_
      refine lv_lload_n hx hb dX2_joined_111 rfl (lv_at hl 2 rfl) ?_
      refine r_csl (rest := []) [.long (mL x1), .long (mL x3)] X hw (fun ra σa h => c_J9_floorMod_f86c9 l D cy ad bs F x1 x3 σ ra σa  h) km_J9_floorMod_f86c9 ks_J9_floorMod_f86c9 lm_X2_48 dX2_joined_112 hl.1 rfl rfl (Nat.le_of_ble_eq_true rfl) ⟨by decide, by decide⟩ ⟨Nat.zero_le _, Nat.zero_le _⟩ hf (fun r3 σ4 _ hf H locs hw => ?_)
      exact w_X2_joined_b115 X hw (lv_sub hl [] rfl) hf
    · refine lv_lconst (v := mL 0) hx hb dX2_joined_106 (by decide) ?_
      refine lv_goto (tgt := 115) hx hb dX2_joined_107 (by decide) ?_
      exact w_X2_joined_b115 X hw (lv_sub hl [] rfl) hf
  refine r_case hf (fun hc8 hf => ?_) (fun hc8 hf => ?_)
  · refine r_tin (k := 8) (off := 115) (tgt := 116) X dX2_joined_1 hc8 (by decide) (by decide) rfl (by decide) ?_
    refine lv_lload_n hx hb dX2_joined_116 rfl (lv_at hl 1 rfl) ?_
    refine lv_lload_n hx hb dX2_joined_117 rfl (lv_at hl 2 rfl) ?_
    refine r_csl (rest := []) [.long (mL x1), .long (mL x3)] X hw (fun ra σa h => c_J9_min_f86c9 l D cy ad bs F x1 x3 σ ra σa  h) km_J9_min_f86c9 ks_J9_min_f86c9 lm_X2_39 dX2_joined_118 hl.1 rfl rfl (Nat.le_of_ble_eq_true rfl) ⟨by decide, by decide⟩ ⟨Nat.zero_le _, Nat.zero_le _⟩ hf (fun r5 σ6 _ hf H locs hw => ?_)
    exact r_lret X hw dX2_joined_121 hf
  refine r_case hf (fun hc9 hf => ?_) (fun hc9 hf => ?_)
  · refine r_tin (k := 9) (off := 121) (tgt := 122) X dX2_joined_1 hc9 (by decide) (by decide) rfl (by decide) ?_
    refine lv_lload_n hx hb dX2_joined_122 rfl (lv_at hl 1 rfl) ?_
    refine lv_lload_n hx hb dX2_joined_123 rfl (lv_at hl 2 rfl) ?_
    refine r_csl (rest := []) [.long (mL x1), .long (mL x3)] X hw (fun ra σa h => c_J9_max_f86c9 l D cy ad bs F x1 x3 σ ra σa  h) km_J9_max_f86c9 ks_J9_max_f86c9 lm_X2_43 dX2_joined_124 hl.1 rfl rfl (Nat.le_of_ble_eq_true rfl) ⟨by decide, by decide⟩ ⟨Nat.zero_le _, Nat.zero_le _⟩ hf (fun r7 σ8 _ hf H locs hw => ?_)
    exact r_lret X hw dX2_joined_127 hf
  refine r_case hf (fun hc10 hf => ?_) (fun hc10 hf => ?_)
  · refine r_tin (k := 10) (off := 127) (tgt := 128) X dX2_joined_1 hc10 (by decide) (by decide) rfl (by decide) ?_
    refine lv_lload_n hx hb dX2_joined_128 rfl (lv_at hl 1 rfl) ?_
    refine lv_lload_n hx hb dX2_joined_129 rfl (lv_at hl 2 rfl) ?_
    refine r_lcmp_ge (tgt := 138) X dX2_joined_130 dX2_joined_131 (by decide) hf (fun hc hf => ?_) (fun hc hf => ?_)
    · refine lv_lconst (v := mL 0) hx hb dX2_joined_138 (by decide) ?_
      exact w_X2_joined_b139 X hw (lv_sub hl [] rfl) hf
    · refine lv_lconst (v := mL 1) hx hb dX2_joined_134 (by decide) ?_
      refine lv_goto (tgt := 139) hx hb dX2_joined_135 (by decide) ?_
      exact w_X2_joined_b139 X hw (lv_sub hl [] rfl) hf
  refine r_case hf (fun hc11 hf => ?_) (fun hc11 hf => ?_)
  · refine r_tin (k := 11) (off := 139) (tgt := 140) X dX2_joined_1 hc11 (by decide) (by decide) rfl (by decide) ?_
    refine lv_lload_n hx hb dX2_joined_140 rfl (lv_at hl 1 rfl) ?_
    refine lv_lload_n hx hb dX2_joined_141 rfl (lv_at hl 2 rfl) ?_
    refine r_lcmp_le (tgt := 150) X dX2_joined_142 dX2_joined_143 (by decide) hf (fun hc hf => ?_) (fun hc hf => ?_)
    · refine lv_lconst (v := mL 0) hx hb dX2_joined_150 (by decide) ?_
      exact w_X2_joined_b151 X hw (lv_sub hl [] rfl) hf
    · refine lv_lconst (v := mL 1) hx hb dX2_joined_146 (by decide) ?_
      refine lv_goto (tgt := 151) hx hb dX2_joined_147 (by decide) ?_
      exact w_X2_joined_b151 X hw (lv_sub hl [] rfl) hf
  refine r_case hf (fun hc12 hf => ?_) (fun hc12 hf => ?_)
  · refine r_tin (k := 12) (off := 151) (tgt := 152) X dX2_joined_1 hc12 (by decide) (by decide) rfl (by decide) ?_
    refine lv_lload_n hx hb dX2_joined_152 rfl (lv_at hl 1 rfl) ?_
    refine lv_lload_n hx hb dX2_joined_153 rfl (lv_at hl 2 rfl) ?_
    refine r_lcmp_ne (tgt := 162) X dX2_joined_154 dX2_joined_155 (by decide) hf (fun hc hf => ?_) (fun hc hf => ?_)
    · refine lv_lconst (v := mL 0) hx hb dX2_joined_162 (by decide) ?_
      exact w_X2_joined_b163 X hw (lv_sub hl [] rfl) hf
    · refine lv_lconst (v := mL 1) hx hb dX2_joined_158 (by decide) ?_
      refine lv_goto (tgt := 163) hx hb dX2_joined_159 (by decide) ?_
      exact w_X2_joined_b163 X hw (lv_sub hl [] rfl) hf
  refine r_case hf (fun hc13 hf => ?_) (fun hc13 hf => ?_)
  · refine r_tin (k := 13) (off := 163) (tgt := 164) X dX2_joined_1 hc13 (by decide) (by decide) rfl (by decide) ?_
    refine lv_lload_n hx hb dX2_joined_164 rfl (lv_at hl 1 rfl) ?_
    refine lv_lconst (v := mL 0) hx hb dX2_joined_165 (by decide) ?_
    refine r_lcmp_eq (tgt := 180) X dX2_joined_166 dX2_joined_167 (by decide) hf (fun hc hf => ?_) (fun hc hf => ?_)
    · exact w_X2_joined_b180 X hw (lv_sub hl [] rfl) hf
    · refine lv_lload_n hx hb dX2_joined_170 rfl (lv_at hl 2 rfl) ?_
      refine lv_lconst (v := mL 0) hx hb dX2_joined_171 (by decide) ?_
      refine r_lcmp_eq (tgt := 180) X dX2_joined_172 dX2_joined_173 (by decide) hf (fun hc hf => ?_) (fun hc hf => ?_)
      · exact w_X2_joined_b180 X hw (lv_sub hl [] rfl) hf
      · refine lv_lconst (v := mL 1) hx hb dX2_joined_176 (by decide) ?_
        refine lv_goto (tgt := 181) hx hb dX2_joined_177 (by decide) ?_
        exact w_X2_joined_b181 X hw (lv_sub hl [] rfl) hf
  refine r_case hf (fun hc14 hf => ?_) (fun hc14 hf => ?_)
  · refine r_tin (k := 14) (off := 181) (tgt := 182) X dX2_joined_1 hc14 (by decide) (by decide) rfl (by decide) ?_
    refine lv_lload_n hx hb dX2_joined_182 rfl (lv_at hl 1 rfl) ?_
    refine lv_lconst (v := mL 0) hx hb dX2_joined_183 (by decide) ?_
    refine r_lcmp_ne (tgt := 194) X dX2_joined_184 dX2_joined_185 (by decide) hf (fun hc hf => ?_) (fun hc hf => ?_)
    · exact w_X2_joined_b194 X hw (lv_sub hl [] rfl) hf
    · refine lv_lload_n hx hb dX2_joined_188 rfl (lv_at hl 2 rfl) ?_
      refine lv_lconst (v := mL 0) hx hb dX2_joined_189 (by decide) ?_
      refine r_lcmp_eq (tgt := 198) X dX2_joined_190 dX2_joined_191 (by decide) hf (fun hc hf => ?_) (fun hc hf => ?_)
      · refine lv_lconst (v := mL 0) hx hb dX2_joined_198 (by decide) ?_
        exact w_X2_joined_b199 X hw (lv_sub hl [] rfl) hf
      · exact w_X2_joined_b194 X hw (lv_sub hl [] rfl) hf
  refine r_case hf (fun hc15 hf => ?_) (fun hc15 hf => ?_)
  · refine r_tin (k := 15) (off := 211) (tgt := 212) X dX2_joined_1 hc15 (by decide) (by decide) rfl (by decide) ?_
    refine lv_lload_n hx hb dX2_joined_212 rfl (lv_at hl 2 rfl) ?_
    exact r_lret X hw dX2_joined_213 hf
  refine r_tout (tgt := 214) X dX2_joined_1 (by omega) (by decide) ?_
  refine lv_lload_n hx hb dX2_joined_214 rfl (lv_at hl 1 rfl) ?_
  exact r_lret X hw dX2_joined_215 hf
def g_X2_needsOf_b25 (F : Nat)  (t0 : Int) (σ : mMem) : mRs := some (t0, σ)
set_option maxRecDepth 100000 in
set_option maxHeartbeats 4000000 in
theorem w_X2_needsOf_b25 {p : Program} {l : Launch} {e : Env} {s : State} {m : MethodId} {args : Array Value} {below : List Frame} {meth : Method} {c : Code} {D : va_G} {cy : Nat → ClassId} {ad : Nat → Nat} {bs : Nat} {F : Nat}  (X : mCx p m c cX2_needsOf 1 s args RX2 meth D cy (some .int))  {r : Int} {σ' : mMem}   {t0 : Int} {σ : mMem} {H : Heap} {locs : List Loc} {ls : Array Slot} (hw : mWd D cy ad bs true mN σ s.heap H locs) (hl : lv_has ls 1 []) (hf : g_X2_needsOf_b25 F t0 σ = some (r, σ')) : mGi p l e 1 s m args below meth c D cy ad bs r σ' H locs (F0 m 25 ls [.int (mI t0)]) := by
  obtain ⟨⟨hx, hb, -, -, -⟩, -⟩ := id X
  unfold g_X2_needsOf_b25 at hf
  exact r_iret X hw dX2_needsOf_25 hf
def g_X2_needsOf (F : Nat) (x0 : Int) (σ : mMem) : mRs := if mw 2 ≤ mw x0 then (if ¬ mw x0 = mw 2 then (if ¬ mw x0 = mw 15 then (g_X2_needsOf_b25 F 2 σ) else (g_X2_needsOf_b25 F 3 σ)) else (some (1, σ))) else (some (0, σ))
set_option maxRecDepth 100000 in
set_option maxHeartbeats 4000000 in
theorem c_X2_needsOf (l : Launch) (D : va_G) (cy : Nat → ClassId) (ad : Nat → Nat) (bs : Nat) (F : Nat)  (x0 : Int) (σ : mMem) (r : Int) (σ' : mMem)  (hf : g_X2_needsOf F x0 σ = some (r, σ')) : mCi l D cy ad bs yX2_needsOf cX2_needsOf 1 (some .int) 1 [.int (mI x0)] σ r σ' := by
  refine mCi.of (lv := [(0, .int (mI x0))]) km_X2_needsOf.2.2.2.2.2 (Nat.le_of_ble_eq_true rfl) rfl (fun p e s m args below meth c H locs ls X hw hl => ?_)
  obtain ⟨⟨hx, hb, -, -, -⟩, -⟩ := id X
  unfold g_X2_needsOf at hf
  refine lv_iload_n hx hb dX2_needsOf_0 rfl (lv_at hl 0 rfl) ?_
  refine lv_iconst (v := mI 2) hx hb dX2_needsOf_1 rfl ?_
  refine r_icmp_ge (tgt := 7) X dX2_needsOf_2 (by decide) hf (fun hc hf => ?_) (fun hc hf => ?_)
  · refine lv_iload_n hx hb dX2_needsOf_7 rfl (lv_at hl 0 rfl) ?_
    refine lv_iconst (v := mI 2) hx hb dX2_needsOf_8 rfl ?_
    refine r_icmp_ne (tgt := 14) X dX2_needsOf_9 (by decide) hf (fun hc hf => ?_) (fun hc hf => ?_)
    · refine lv_iload_n hx hb dX2_needsOf_14 rfl (lv_at hl 0 rfl) ?_
      refine lv_bipush (v := mI 15) hx hb dX2_needsOf_15 (by decide) ?_
      refine r_icmp_ne (tgt := 24) X dX2_needsOf_17 (by decide) hf (fun hc hf => ?_) (fun hc hf => ?_)
      · refine lv_iconst (v := mI 2) hx hb dX2_needsOf_24 rfl ?_
        exact w_X2_needsOf_b25 X hw (lv_sub hl [] rfl) hf
      · refine lv_iconst (v := mI 3) hx hb dX2_needsOf_20 rfl ?_
        refine lv_goto (tgt := 25) hx hb dX2_needsOf_21 (by decide) ?_
        exact w_X2_needsOf_b25 X hw (lv_sub hl [] rfl) hf
    · refine lv_iconst (v := mI 1) hx hb dX2_needsOf_12 rfl ?_
      exact r_iret X hw dX2_needsOf_13 hf
  · refine lv_iconst (v := mI 0) hx hb dX2_needsOf_5 rfl ?_
    exact r_iret X hw dX2_needsOf_6 hf
def g_X2_valueOf_b231 (F : Nat) (o : Nat) (p1 : Nat)  (t0 : Int) (σ : mMem) : mRs := some (t0, σ)
set_option maxRecDepth 100000 in
set_option maxHeartbeats 4000000 in
theorem w_X2_valueOf_b231 {p : Program} {l : Launch} {e : Env} {s : State} {m : MethodId} {args : Array Value} {below : List Frame} {meth : Method} {c : Code} {D : va_G} {cy : Nat → ClassId} {ad : Nat → Nat} {bs : Nat} {F : Nat} {o : Nat} {p1 : Nat} (X : mCx p m c cX2_valueOf 12 s args RX2 meth D cy (some .int)) (ho : mMach o) (hp1 : mPlan p1) {r : Int} {σ' : mMem}   {t0 : Int} {σ : mMem} {H : Heap} {locs : List Loc} {ls : Array Slot} (hw : mWd D cy ad bs true mN σ s.heap H locs) (hl : lv_has ls 12 [(0, .ref (ad o)), (1, .ref (ad p1))]) (hf : g_X2_valueOf_b231 F o p1 t0 σ = some (r, σ')) : mGi p l e 3 s m args below meth c D cy ad bs r σ' H locs (F0 m 231 ls [.int (mI t0)]) := by
  obtain ⟨⟨hx, hb, -, -, -⟩, -⟩ := id X
  unfold g_X2_valueOf_b231 at hf
  exact r_iret X hw dX2_valueOf_231 hf
def g_X2_valueOf_b215 (F : Nat) (o : Nat) (p1 : Nat)  (x4 : Int) (σ : mMem) : mRs := if ¬ mw x4 = mw 1 then (g_X2_valueOf_b231 F o p1 0 σ) else (if 0 ≤ mw 0 ∧ mw 0 < (80 : Int) then g_X2_valueOf_b231 F o p1 (σ (o + 2) (mw 0).toNat) σ else none)
set_option maxRecDepth 100000 in
set_option maxHeartbeats 4000000 in
theorem w_X2_valueOf_b215 {p : Program} {l : Launch} {e : Env} {s : State} {m : MethodId} {args : Array Value} {below : List Frame} {meth : Method} {c : Code} {D : va_G} {cy : Nat → ClassId} {ad : Nat → Nat} {bs : Nat} {F : Nat} {o : Nat} {p1 : Nat} (X : mCx p m c cX2_valueOf 12 s args RX2 meth D cy (some .int)) (ho : mMach o) (hp1 : mPlan p1) {r : Int} {σ' : mMem}   {x4 : Int} {σ : mMem} {H : Heap} {locs : List Loc} {ls : Array Slot} (hw : mWd D cy ad bs true mN σ s.heap H locs) (hl : lv_has ls 12 [(0, .ref (ad o)), (1, .ref (ad p1)), (4, .int (mI x4))]) (hf : g_X2_valueOf_b215 F o p1 x4 σ = some (r, σ')) : mGi p l e 3 s m args below meth c D cy ad bs r σ' H locs (F0 m 215 ls []) := by
  obtain ⟨⟨hx, hb, -, -, -⟩, -⟩ := id X
  unfold g_X2_valueOf_b215 at hf
  refine lv_iload hx hb dX2_valueOf_215 (lv_at hl 2 rfl) ?_
  refine lv_iconst (v := mI 1) hx hb dX2_valueOf_217 rfl ?_
  refine r_icmp_ne (tgt := 230) X dX2_valueOf_218 (by decide) hf (fun hc hf => ?_) (fun hc hf => ?_)
  · refine lv_iconst (v := mI 0) hx hb dX2_valueOf_230 rfl ?_
    exact w_X2_valueOf_b231 X ho hp1 hw (lv_sub hl [0, 1] rfl) hf
  · refine lv_aload_n hx hb dX2_valueOf_221 rfl (lv_at hl 0 rfl) ?_
    refine r_getr (o + 2) X hw ho.1 fd_2_1 rfl rfl lf_X2_13 dX2_valueOf_222 ?_
    refine lv_iconst (v := mI 0) hx hb dX2_valueOf_225 rfl ?_
    refine r_iald (80 : Int) rfl X hw ho.2.2 dX2_valueOf_226 hf (fun hf => ?_)
    refine lv_goto (tgt := 231) hx hb dX2_valueOf_227 (by decide) ?_
    exact w_X2_valueOf_b231 X ho hp1 hw (lv_sub hl [0, 1] rfl) hf
def g_X2_valueOf_b67 (F : Nat) (o : Nat) (p1 : Nat)  (σ : mMem) : mRs := some (0, σ)
set_option maxRecDepth 100000 in
set_option maxHeartbeats 4000000 in
theorem w_X2_valueOf_b67 {p : Program} {l : Launch} {e : Env} {s : State} {m : MethodId} {args : Array Value} {below : List Frame} {meth : Method} {c : Code} {D : va_G} {cy : Nat → ClassId} {ad : Nat → Nat} {bs : Nat} {F : Nat} {o : Nat} {p1 : Nat} (X : mCx p m c cX2_valueOf 12 s args RX2 meth D cy (some .int)) (ho : mMach o) (hp1 : mPlan p1) {r : Int} {σ' : mMem}    {σ : mMem} {H : Heap} {locs : List Loc} {ls : Array Slot} (hw : mWd D cy ad bs true mN σ s.heap H locs) (hl : lv_has ls 12 [(0, .ref (ad o)), (1, .ref (ad p1))]) (hf : g_X2_valueOf_b67 F o p1  σ = some (r, σ')) : mGi p l e 3 s m args below meth c D cy ad bs r σ' H locs (F0 m 67 ls []) := by
  obtain ⟨⟨hx, hb, -, -, -⟩, -⟩ := id X
  unfold g_X2_valueOf_b67 at hf
  refine lv_iconst (v := mI 0) hx hb dX2_valueOf_67 rfl ?_
  exact r_iret X hw dX2_valueOf_68 hf
def g_X2_valueOf_b171 (F : Nat) (o : Nat) (p1 : Nat) (k10 : Int → Int → Int → mMem → mRs) (x3 x4 x5 x6 x8 x9 : Int) (σ : mMem) : mRs := mob (g_X2_joined F x6 (mw x8) (mw x9) σ) (fun r810 σ811 => mob (g_J9_min_f86c9 F 1000000 r810 σ811) (fun r812 σ813 => mob (g_J9_max_f86c9 F (-1000000) r812 σ813) (fun r814 σ815 => if 0 ≤ mw x4 ∧ mw x4 < (80 : Int) then mlm (mup σ815 (o + 2) (mw x4).toNat r814) (fun σ816 => k10 x3 (x4 + 1) (x5 + 1) σ816) else none)))
set_option maxRecDepth 100000 in
set_option maxHeartbeats 4000000 in
theorem w_X2_valueOf_b171 {p : Program} {l : Launch} {e : Env} {s : State} {m : MethodId} {args : Array Value} {below : List Frame} {meth : Method} {c : Code} {D : va_G} {cy : Nat → ClassId} {ad : Nat → Nat} {bs : Nat} {F : Nat} {o : Nat} {p1 : Nat} (X : mCx p m c cX2_valueOf 12 s args RX2 meth D cy (some .int)) (ho : mMach o) (hp1 : mPlan p1) {r : Int} {σ' : mMem} {k10 : Int → Int → Int → mMem → mRs} (hk10 : ∀ (x3 x4 x5 : Int) (σ : mMem) (H : Heap) (locs : List Loc) (ls : Array Slot), mWd D cy ad bs true mN σ s.heap H locs → lv_has ls 12 [(0, .ref (ad o)), (1, .ref (ad p1)), (3, .int (mI x3)), (4, .int (mI x4)), (5, .int (mI x5))] → k10 x3 x4 x5 σ = some (r, σ') → mGi p l e 3 s m args below meth c D cy ad bs r σ' H locs (F0 m 10 ls [])) {x3 x4 x5 x6 x8 x9 : Int} {σ : mMem} {H : Heap} {locs : List Loc} {ls : Array Slot} (hw : mWd D cy ad bs true mN σ s.heap H locs) (hl : lv_has ls 12 [(0, .ref (ad o)), (1, .ref (ad p1)), (3, .int (mI x3)), (4, .int (mI x4)), (5, .int (mI x5)), (6, .int (mI x6)), (8, .int (mI x8)), (9, .int (mI x9))]) (hf : g_X2_valueOf_b171 F o p1 k10 x3 x4 x5 x6 x8 x9 σ = some (r, σ')) : mGi p l e 3 s m args below meth c D cy ad bs r σ' H locs (F0 m 171 ls []) := by
  obtain ⟨⟨hx, hb, -, -, -⟩, -⟩ := id X
  unfold g_X2_valueOf_b171 at hf
  refine lv_iload hx hb dX2_valueOf_171 (lv_at hl 5 rfl) ?_
  refine lv_iload hx hb dX2_valueOf_173 (lv_at hl 6 rfl) ?_
  refine r_i2l X dX2_valueOf_175 ?_
  refine lv_iload hx hb dX2_valueOf_176 (lv_at hl 7 rfl) ?_
  refine r_i2l X dX2_valueOf_178 ?_
  refine r_csl (rest := []) [.int (mI x6), .long (mL (mw x8)), .long (mL (mw x9))] X hw (fun ra σa h => c_X2_joined l D cy ad bs F x6 (mw x8) (mw x9) σ ra σa  h) km_X2_joined ks_X2_joined lm_X2_31 dX2_valueOf_179 hl.1 rfl rfl (Nat.le_of_ble_eq_true rfl) ⟨by decide, by decide⟩ ⟨Nat.zero_le _, Nat.zero_le _⟩ hf (fun r810 σ811 _ hf H locs hw => ?_)
  refine lv_lstore (lv' := [(10, .long (mL r810)), (0, .ref (ad o)), (1, .ref (ad p1)), (3, .int (mI x3)), (4, .int (mI x4)), (5, .int (mI x5)), (6, .int (mI x6)), (8, .int (mI x8)), (9, .int (mI x9))]) hx hb dX2_valueOf_182 hl (by decide) rfl (fun ls hl => ?_)
  refine lv_aload_n hx hb dX2_valueOf_184 rfl (lv_at hl 1 rfl) ?_
  refine r_getr (o + 2) X hw ho.1 fd_2_1 rfl rfl lf_X2_13 dX2_valueOf_185 ?_
  refine lv_iload hx hb dX2_valueOf_188 (lv_at hl 4 rfl) ?_
  refine r_ldc2 (z := (-1000000)) (by decide) X lc_X2_35 dX2_valueOf_190 ?_
  refine r_ldc2 (z := 1000000) (by decide) X lc_X2_37 dX2_valueOf_193 ?_
  refine lv_lload hx hb dX2_valueOf_196 (lv_at hl 0 rfl) ?_
  refine r_csl (rest := [.long (mL (-1000000)), .int (mI x4), .ref (ad (o + 2))]) [.long (mL 1000000), .long (mL r810)] X hw (fun ra σa h => c_J9_min_f86c9 l D cy ad bs F 1000000 r810 σ811 ra σa  h) km_J9_min_f86c9 ks_J9_min_f86c9 lm_X2_39 dX2_valueOf_198 hl.1 rfl rfl (Nat.le_of_ble_eq_true rfl) ⟨by decide, by decide⟩ ⟨Nat.zero_le _, Nat.zero_le _⟩ hf (fun r812 σ813 _ hf H locs hw => ?_)
  refine r_csl (rest := [.int (mI x4), .ref (ad (o + 2))]) [.long (mL (-1000000)), .long (mL r812)] X hw (fun ra σa h => c_J9_max_f86c9 l D cy ad bs F (-1000000) r812 σ813 ra σa  h) km_J9_max_f86c9 ks_J9_max_f86c9 lm_X2_43 dX2_valueOf_201 hl.1 rfl rfl (Nat.le_of_ble_eq_true rfl) ⟨by decide, by decide⟩ ⟨Nat.zero_le _, Nat.zero_le _⟩ hf (fun r814 σ815 _ hf H locs hw => ?_)
  refine r_l2i X dX2_valueOf_204 ?_
  refine r_iast (80 : Int) rfl X hw ho.2.2 dX2_valueOf_205 hf (fun hf H locs hw => ?_)
  refine r_mem hf hw (fun σ816 hw hf => ?_)
  refine lv_iinc (v := mI (x4 + 1)) (lv' := [(4, .int (mI (x4 + 1))), (10, .long (mL r810)), (0, .ref (ad o)), (1, .ref (ad p1)), (3, .int (mI x3)), (5, .int (mI x5)), (6, .int (mI x6)), (8, .int (mI x8)), (9, .int (mI x9))]) hx hb dX2_valueOf_206 hl (k := 4) rfl (mI_add _ _) (by decide) rfl (fun ls hl => ?_)
  refine lv_iinc (v := mI (x5 + 1)) (lv' := [(5, .int (mI (x5 + 1))), (4, .int (mI (x4 + 1))), (10, .long (mL r810)), (0, .ref (ad o)), (1, .ref (ad p1)), (3, .int (mI x3)), (6, .int (mI x6)), (8, .int (mI x8)), (9, .int (mI x9))]) hx hb dX2_valueOf_209 hl (k := 5) rfl (mI_add _ _) (by decide) rfl (fun ls hl => ?_)
  refine lv_goto (tgt := 10) hx hb dX2_valueOf_212 (by decide) ?_
  exact hk10 x3 (x4 + 1) (x5 + 1) σ816 _ _ _ hw (lv_sub hl [3, 4, 5, 1, 0] rfl) hf
def g_X2_valueOf_b169 (F : Nat) (o : Nat) (p1 : Nat) (k10 : Int → Int → Int → mMem → mRs) (x3 x4 x5 x6 x8 t0 : Int) (σ : mMem) : mRs := g_X2_valueOf_b171 F o p1 k10 x3 x4 x5 x6 x8 t0 σ
set_option maxRecDepth 100000 in
set_option maxHeartbeats 4000000 in
theorem w_X2_valueOf_b169 {p : Program} {l : Launch} {e : Env} {s : State} {m : MethodId} {args : Array Value} {below : List Frame} {meth : Method} {c : Code} {D : va_G} {cy : Nat → ClassId} {ad : Nat → Nat} {bs : Nat} {F : Nat} {o : Nat} {p1 : Nat} (X : mCx p m c cX2_valueOf 12 s args RX2 meth D cy (some .int)) (ho : mMach o) (hp1 : mPlan p1) {r : Int} {σ' : mMem} {k10 : Int → Int → Int → mMem → mRs} (hk10 : ∀ (x3 x4 x5 : Int) (σ : mMem) (H : Heap) (locs : List Loc) (ls : Array Slot), mWd D cy ad bs true mN σ s.heap H locs → lv_has ls 12 [(0, .ref (ad o)), (1, .ref (ad p1)), (3, .int (mI x3)), (4, .int (mI x4)), (5, .int (mI x5))] → k10 x3 x4 x5 σ = some (r, σ') → mGi p l e 3 s m args below meth c D cy ad bs r σ' H locs (F0 m 10 ls [])) {x3 x4 x5 x6 x8 t0 : Int} {σ : mMem} {H : Heap} {locs : List Loc} {ls : Array Slot} (hw : mWd D cy ad bs true mN σ s.heap H locs) (hl : lv_has ls 12 [(0, .ref (ad o)), (1, .ref (ad p1)), (3, .int (mI x3)), (4, .int (mI x4)), (5, .int (mI x5)), (6, .int (mI x6)), (8, .int (mI x8))]) (hf : g_X2_valueOf_b169 F o p1 k10 x3 x4 x5 x6 x8 t0 σ = some (r, σ')) : mGi p l e 3 s m args below meth c D cy ad bs r σ' H locs (F0 m 169 ls [.int (mI t0)]) := by
  obtain ⟨⟨hx, hb, -, -, -⟩, -⟩ := id X
  unfold g_X2_valueOf_b169 at hf
  refine lv_istore (lv' := [(9, .int (mI t0)), (0, .ref (ad o)), (1, .ref (ad p1)), (3, .int (mI x3)), (4, .int (mI x4)), (5, .int (mI x5)), (6, .int (mI x6)), (8, .int (mI x8))]) hx hb dX2_valueOf_169 hl (by decide) rfl (fun ls hl => ?_)
  exact w_X2_valueOf_b171 X ho hp1 hk10 hw (lv_sub hl [1, 2, 3, 4, 5, 6, 7, 0] rfl) hf
def g_X2_valueOf_b143 (F : Nat) (o : Nat) (p1 : Nat) (k10 : Int → Int → Int → mMem → mRs) (x3 x4 x5 x6 x8 x9 : Int) (σ : mMem) : mRs := if ¬ mw x6 = mw 15 then (g_X2_valueOf_b171 F o p1 k10 x3 x4 x5 x6 x8 x9 σ) else (if mw x8 = 0 then (if 0 ≤ mw (x4 + 2) ∧ mw (x4 + 2) < (80 : Int) then g_X2_valueOf_b169 F o p1 k10 x3 x4 x5 x6 x8 (σ (o + 2) (mw (x4 + 2)).toNat) σ else none) else (g_X2_valueOf_b169 F o p1 k10 x3 x4 x5 x6 x8 x9 σ))
set_option maxRecDepth 100000 in
set_option maxHeartbeats 4000000 in
theorem w_X2_valueOf_b143 {p : Program} {l : Launch} {e : Env} {s : State} {m : MethodId} {args : Array Value} {below : List Frame} {meth : Method} {c : Code} {D : va_G} {cy : Nat → ClassId} {ad : Nat → Nat} {bs : Nat} {F : Nat} {o : Nat} {p1 : Nat} (X : mCx p m c cX2_valueOf 12 s args RX2 meth D cy (some .int)) (ho : mMach o) (hp1 : mPlan p1) {r : Int} {σ' : mMem} {k10 : Int → Int → Int → mMem → mRs} (hk10 : ∀ (x3 x4 x5 : Int) (σ : mMem) (H : Heap) (locs : List Loc) (ls : Array Slot), mWd D cy ad bs true mN σ s.heap H locs → lv_has ls 12 [(0, .ref (ad o)), (1, .ref (ad p1)), (3, .int (mI x3)), (4, .int (mI x4)), (5, .int (mI x5))] → k10 x3 x4 x5 σ = some (r, σ') → mGi p l e 3 s m args below meth c D cy ad bs r σ' H locs (F0 m 10 ls [])) {x3 x4 x5 x6 x8 x9 : Int} {σ : mMem} {H : Heap} {locs : List Loc} {ls : Array Slot} (hw : mWd D cy ad bs true mN σ s.heap H locs) (hl : lv_has ls 12 [(0, .ref (ad o)), (1, .ref (ad p1)), (3, .int (mI x3)), (4, .int (mI x4)), (5, .int (mI x5)), (6, .int (mI x6)), (8, .int (mI x8)), (9, .int (mI x9))]) (hf : g_X2_valueOf_b143 F o p1 k10 x3 x4 x5 x6 x8 x9 σ = some (r, σ')) : mGi p l e 3 s m args below meth c D cy ad bs r σ' H locs (F0 m 143 ls []) := by
  obtain ⟨⟨hx, hb, -, -, -⟩, -⟩ := id X
  unfold g_X2_valueOf_b143 at hf
  refine lv_iload hx hb dX2_valueOf_143 (lv_at hl 5 rfl) ?_
  refine lv_bipush (v := mI 15) hx hb dX2_valueOf_145 (by decide) ?_
  refine r_icmp_ne (tgt := 171) X dX2_valueOf_147 (by decide) hf (fun hc hf => ?_) (fun hc hf => ?_)
  · exact w_X2_valueOf_b171 X ho hp1 hk10 hw (lv_sub hl [0, 1, 2, 3, 4, 5, 6, 7] rfl) hf
  · refine lv_iload hx hb dX2_valueOf_150 (lv_at hl 6 rfl) ?_
    refine r_if_eq (tgt := 160) X dX2_valueOf_152 (by decide) hf (fun hc hf => ?_) (fun hc hf => ?_)
    · refine lv_aload_n hx hb dX2_valueOf_160 rfl (lv_at hl 0 rfl) ?_
      refine r_getr (o + 2) X hw ho.1 fd_2_1 rfl rfl lf_X2_13 dX2_valueOf_161 ?_
      refine lv_iload hx hb dX2_valueOf_164 (lv_at hl 3 rfl) ?_
      refine lv_iconst (v := mI 2) hx hb dX2_valueOf_166 rfl ?_
      refine r_iadd X dX2_valueOf_167 ?_
      refine r_iald (80 : Int) rfl X hw ho.2.2 dX2_valueOf_168 hf (fun hf => ?_)
      exact w_X2_valueOf_b169 X ho hp1 hk10 hw (lv_sub hl [0, 1, 2, 3, 4, 5, 6] rfl) hf
    · refine lv_iload hx hb dX2_valueOf_155 (lv_at hl 7 rfl) ?_
      refine lv_goto (tgt := 169) hx hb dX2_valueOf_157 (by decide) ?_
      exact w_X2_valueOf_b169 X ho hp1 hk10 hw (lv_sub hl [0, 1, 2, 3, 4, 5, 6] rfl) hf
def g_X2_valueOf_b141 (F : Nat) (o : Nat) (p1 : Nat) (k10 : Int → Int → Int → mMem → mRs) (x3 x4 x5 x6 x9 t0 : Int) (σ : mMem) : mRs := g_X2_valueOf_b143 F o p1 k10 x3 x4 x5 x6 t0 x9 σ
set_option maxRecDepth 100000 in
set_option maxHeartbeats 4000000 in
theorem w_X2_valueOf_b141 {p : Program} {l : Launch} {e : Env} {s : State} {m : MethodId} {args : Array Value} {below : List Frame} {meth : Method} {c : Code} {D : va_G} {cy : Nat → ClassId} {ad : Nat → Nat} {bs : Nat} {F : Nat} {o : Nat} {p1 : Nat} (X : mCx p m c cX2_valueOf 12 s args RX2 meth D cy (some .int)) (ho : mMach o) (hp1 : mPlan p1) {r : Int} {σ' : mMem} {k10 : Int → Int → Int → mMem → mRs} (hk10 : ∀ (x3 x4 x5 : Int) (σ : mMem) (H : Heap) (locs : List Loc) (ls : Array Slot), mWd D cy ad bs true mN σ s.heap H locs → lv_has ls 12 [(0, .ref (ad o)), (1, .ref (ad p1)), (3, .int (mI x3)), (4, .int (mI x4)), (5, .int (mI x5))] → k10 x3 x4 x5 σ = some (r, σ') → mGi p l e 3 s m args below meth c D cy ad bs r σ' H locs (F0 m 10 ls [])) {x3 x4 x5 x6 x9 t0 : Int} {σ : mMem} {H : Heap} {locs : List Loc} {ls : Array Slot} (hw : mWd D cy ad bs true mN σ s.heap H locs) (hl : lv_has ls 12 [(0, .ref (ad o)), (1, .ref (ad p1)), (3, .int (mI x3)), (4, .int (mI x4)), (5, .int (mI x5)), (6, .int (mI x6)), (9, .int (mI x9))]) (hf : g_X2_valueOf_b141 F o p1 k10 x3 x4 x5 x6 x9 t0 σ = some (r, σ')) : mGi p l e 3 s m args below meth c D cy ad bs r σ' H locs (F0 m 141 ls [.int (mI t0)]) := by
  obtain ⟨⟨hx, hb, -, -, -⟩, -⟩ := id X
  unfold g_X2_valueOf_b141 at hf
  refine lv_istore (lv' := [(8, .int (mI t0)), (0, .ref (ad o)), (1, .ref (ad p1)), (3, .int (mI x3)), (4, .int (mI x4)), (5, .int (mI x5)), (6, .int (mI x6)), (9, .int (mI x9))]) hx hb dX2_valueOf_141 hl (by decide) rfl (fun ls hl => ?_)
  exact w_X2_valueOf_b143 X ho hp1 hk10 hw (lv_sub hl [1, 2, 3, 4, 5, 6, 0, 7] rfl) hf
def g_X2_valueOf_b114 (F : Nat) (o : Nat) (p1 : Nat) (k10 : Int → Int → Int → mMem → mRs) (x3 x4 x5 x6 x8 x9 : Int) (σ : mMem) : mRs := if ¬ mw x6 = mw 1 then (g_X2_valueOf_b143 F o p1 k10 x3 x4 x5 x6 x8 x9 σ) else (if mw 7 ≤ mw x8 then (g_X2_valueOf_b141 F o p1 k10 x3 x4 x5 x6 x9 0 σ) else (if 0 ≤ mw x8 ∧ mw x8 < (7 : Int) then g_X2_valueOf_b141 F o p1 k10 x3 x4 x5 x6 x9 (σ (o + 1) (mw x8).toNat) σ else none))
set_option maxRecDepth 100000 in
set_option maxHeartbeats 4000000 in
theorem w_X2_valueOf_b114 {p : Program} {l : Launch} {e : Env} {s : State} {m : MethodId} {args : Array Value} {below : List Frame} {meth : Method} {c : Code} {D : va_G} {cy : Nat → ClassId} {ad : Nat → Nat} {bs : Nat} {F : Nat} {o : Nat} {p1 : Nat} (X : mCx p m c cX2_valueOf 12 s args RX2 meth D cy (some .int)) (ho : mMach o) (hp1 : mPlan p1) {r : Int} {σ' : mMem} {k10 : Int → Int → Int → mMem → mRs} (hk10 : ∀ (x3 x4 x5 : Int) (σ : mMem) (H : Heap) (locs : List Loc) (ls : Array Slot), mWd D cy ad bs true mN σ s.heap H locs → lv_has ls 12 [(0, .ref (ad o)), (1, .ref (ad p1)), (3, .int (mI x3)), (4, .int (mI x4)), (5, .int (mI x5))] → k10 x3 x4 x5 σ = some (r, σ') → mGi p l e 3 s m args below meth c D cy ad bs r σ' H locs (F0 m 10 ls [])) {x3 x4 x5 x6 x8 x9 : Int} {σ : mMem} {H : Heap} {locs : List Loc} {ls : Array Slot} (hw : mWd D cy ad bs true mN σ s.heap H locs) (hl : lv_has ls 12 [(0, .ref (ad o)), (1, .ref (ad p1)), (3, .int (mI x3)), (4, .int (mI x4)), (5, .int (mI x5)), (6, .int (mI x6)), (8, .int (mI x8)), (9, .int (mI x9))]) (hf : g_X2_valueOf_b114 F o p1 k10 x3 x4 x5 x6 x8 x9 σ = some (r, σ')) : mGi p l e 3 s m args below meth c D cy ad bs r σ' H locs (F0 m 114 ls []) := by
  obtain ⟨⟨hx, hb, -, -, -⟩, -⟩ := id X
  unfold g_X2_valueOf_b114 at hf
  refine lv_iload hx hb dX2_valueOf_114 (lv_at hl 5 rfl) ?_
  refine lv_iconst (v := mI 1) hx hb dX2_valueOf_116 rfl ?_
  refine r_icmp_ne (tgt := 143) X dX2_valueOf_117 (by decide) hf (fun hc hf => ?_) (fun hc hf => ?_)
  · exact w_X2_valueOf_b143 X ho hp1 hk10 hw (lv_sub hl [0, 1, 2, 3, 4, 5, 6, 7] rfl) hf
  · refine lv_iload hx hb dX2_valueOf_120 (lv_at hl 6 rfl) ?_
    refine lv_aload_n hx hb dX2_valueOf_122 rfl (lv_at hl 0 rfl) ?_
    refine r_getr (o + 1) X hw ho.1 fd_2_0 rfl rfl lf_X2_7 dX2_valueOf_123 ?_
    refine r_ileni (7 : Int) rfl X hw ho.2.1 dX2_valueOf_126 ?_
    refine r_icmp_ge (tgt := 140) X dX2_valueOf_127 (by decide) hf (fun hc hf => ?_) (fun hc hf => ?_)
    · refine lv_iconst (v := mI 0) hx hb dX2_valueOf_140 rfl ?_
      exact w_X2_valueOf_b141 X ho hp1 hk10 hw (lv_sub hl [0, 1, 2, 3, 4, 5, 7] rfl) hf
    · refine lv_aload_n hx hb dX2_valueOf_130 rfl (lv_at hl 0 rfl) ?_
      refine r_getr (o + 1) X hw ho.1 fd_2_0 rfl rfl lf_X2_7 dX2_valueOf_131 ?_
      refine lv_iload hx hb dX2_valueOf_134 (lv_at hl 6 rfl) ?_
      refine r_iald (7 : Int) rfl X hw ho.2.1 dX2_valueOf_136 hf (fun hf => ?_)
      refine lv_goto (tgt := 141) hx hb dX2_valueOf_137 (by decide) ?_
      exact w_X2_valueOf_b141 X ho hp1 hk10 hw (lv_sub hl [0, 1, 2, 3, 4, 5, 7] rfl) hf
def g_X2_valueOf_h10 (F : Nat) (o : Nat) (p1 : Nat)  : Nat → Int → Int → Int → mMem → mRs
  | 0, _, _, _, _ => none
  | n + 1, x3, x4, x5, σ => if mw x3 ≤ mw x5 then (g_X2_valueOf_b215 F o p1 x4 σ) else (if mw 1600 ≤ mw x5 then (g_X2_valueOf_b215 F o p1 x4 σ) else (if 0 ≤ mw x5 ∧ mw x5 < (1600 : Int) then if mw 16 = 0 then none else (mlet ((mw (σ (p1 + 4) (mw x5).toNat)).tmod (mw 16)) (fun y103 => mob (g_X2_needsOf F y103 σ) (fun r104 σ105 => if mw x4 < mw r104 then (g_X2_valueOf_b67 F o p1 σ105) else (if mw ((x4 - r104) + 3) ≤ mw 80 then (mlet (x4 - r104) (fun y106 => if 0 ≤ mw y106 ∧ mw y106 < (80 : Int) then mlet (σ105 (o + 2) (mw y106).toNat) (fun y107 => if 0 ≤ mw (y106 + 1) ∧ mw (y106 + 1) < (80 : Int) then mlet (σ105 (o + 2) (mw (y106 + 1)).toNat) (fun y108 => if mw 2 ≤ mw y103 then (g_X2_valueOf_b114 F o p1 (g_X2_valueOf_h10 F o p1 n) x3 y106 x5 y103 y107 y108 σ105) else (if 0 ≤ mw x5 ∧ mw x5 < (1600 : Int) then if mw 16 = 0 then none else (mlet ((mw (σ105 (p1 + 4) (mw x5).toNat)).tdiv (mw 16)) (fun y109 => g_X2_valueOf_b114 F o p1 (g_X2_valueOf_h10 F o p1 n) x3 y106 x5 y103 y109 y108 σ105)) else none)) else none) else none)) else (g_X2_valueOf_b67 F o p1 σ105))))) else none))
set_option maxRecDepth 100000 in
set_option maxHeartbeats 4000000 in
theorem w_X2_valueOf_h10 {p : Program} {l : Launch} {e : Env} {s : State} {m : MethodId} {args : Array Value} {below : List Frame} {meth : Method} {c : Code} {D : va_G} {cy : Nat → ClassId} {ad : Nat → Nat} {bs : Nat} {F : Nat} {o : Nat} {p1 : Nat} (X : mCx p m c cX2_valueOf 12 s args RX2 meth D cy (some .int)) (ho : mMach o) (hp1 : mPlan p1) {r : Int} {σ' : mMem}   (n : Nat) : ∀ {x3 x4 x5 : Int} {σ : mMem} {H : Heap} {locs : List Loc} {ls : Array Slot} (_ : mWd D cy ad bs true mN σ s.heap H locs) (_ : lv_has ls 12 [(0, .ref (ad o)), (1, .ref (ad p1)), (3, .int (mI x3)), (4, .int (mI x4)), (5, .int (mI x5))]) (_ : g_X2_valueOf_h10 F o p1 n x3 x4 x5 σ = some (r, σ')), mGi p l e 3 s m args below meth c D cy ad bs r σ' H locs (F0 m 10 ls []) := by
  obtain ⟨⟨hx, hb, -, -, -⟩, -⟩ := id X
  induction n with
  | zero =>
    intro x3 x4 x5 σ H locs ls hw hl hf
    unfold g_X2_valueOf_h10 at hf
    cases hf
  | succ n ih =>
    have hk10 : ∀ (x3 x4 x5 : Int) (σ : mMem) (H : Heap) (locs : List Loc) (ls : Array Slot), mWd D cy ad bs true mN σ s.heap H locs → lv_has ls 12 [(0, .ref (ad o)), (1, .ref (ad p1)), (3, .int (mI x3)), (4, .int (mI x4)), (5, .int (mI x5))] → g_X2_valueOf_h10 F o p1 n x3 x4 x5 σ = some (r, σ') → mGi p l e 3 s m args below meth c D cy ad bs r σ' H locs (F0 m 10 ls []) := fun x3 x4 x5 σ H locs ls hw hl hf => ih hw hl hf
    intro x3 x4 x5 σ H locs ls hw hl hf
    unfold g_X2_valueOf_h10 at hf
    refine lv_iload hx hb dX2_valueOf_10 (lv_at hl 4 rfl) ?_
    refine lv_iload_n hx hb dX2_valueOf_12 rfl (lv_at hl 2 rfl) ?_
    refine r_icmp_ge (tgt := 215) X dX2_valueOf_13 (by decide) hf (fun hc hf => ?_) (fun hc hf => ?_)
    · exact w_X2_valueOf_b215 X ho hp1 hw (lv_sub hl [0, 1, 3] rfl) hf
    · refine lv_iload hx hb dX2_valueOf_16 (lv_at hl 4 rfl) ?_
      refine lv_aload_n hx hb dX2_valueOf_18 rfl (lv_at hl 1 rfl) ?_
      refine r_getr (p1 + 4) X hw hp1.1 fd_5_3 rfl rfl lf_X2_22 dX2_valueOf_19 ?_
      refine r_ileni (1600 : Int) rfl X hw hp1.2.2.2.2 dX2_valueOf_22 ?_
      refine r_icmp_ge (tgt := 215) X dX2_valueOf_23 (by decide) hf (fun hc hf => ?_) (fun hc hf => ?_)
      · exact w_X2_valueOf_b215 X ho hp1 hw (lv_sub hl [0, 1, 3] rfl) hf
      · refine lv_aload_n hx hb dX2_valueOf_26 rfl (lv_at hl 1 rfl) ?_
        refine r_getr (p1 + 4) X hw hp1.1 fd_5_3 rfl rfl lf_X2_22 dX2_valueOf_27 ?_
        refine lv_iload hx hb dX2_valueOf_30 (lv_at hl 4 rfl) ?_
        refine r_iald (1600 : Int) rfl X hw hp1.2.2.2.2 dX2_valueOf_32 hf (fun hf => ?_)
        refine lv_bipush (v := mI 16) hx hb dX2_valueOf_33 (by decide) ?_
        refine r_irem X dX2_valueOf_35 hf (fun hf => ?_)
        refine r_leti hf (fun y103 hf => ?_)
        refine lv_istore (lv' := [(6, .int (mI y103)), (0, .ref (ad o)), (1, .ref (ad p1)), (3, .int (mI x3)), (4, .int (mI x4)), (5, .int (mI x5))]) hx hb dX2_valueOf_36 hl (by decide) rfl (fun ls hl => ?_)
        refine lv_iload hx hb dX2_valueOf_38 (lv_at hl 0 rfl) ?_
        refine r_csi (rest := []) [.int (mI y103)] X hw (fun ra σa h => c_X2_needsOf l D cy ad bs F y103 σ ra σa  h) km_X2_needsOf ks_X2_needsOf lm_X2_27 dX2_valueOf_40 hl.1 rfl rfl (Nat.le_of_ble_eq_true rfl) ⟨by decide, by decide⟩ ⟨Nat.zero_le _, Nat.zero_le _⟩ hf (fun r104 σ105 _ hf H locs hw => ?_)
        refine lv_istore (lv' := [(7, .int (mI r104)), (6, .int (mI y103)), (0, .ref (ad o)), (1, .ref (ad p1)), (3, .int (mI x3)), (4, .int (mI x4)), (5, .int (mI x5))]) hx hb dX2_valueOf_43 hl (by decide) rfl (fun ls hl => ?_)
        refine lv_iload hx hb dX2_valueOf_45 (lv_at hl 5 rfl) ?_
        refine lv_iload hx hb dX2_valueOf_47 (lv_at hl 0 rfl) ?_
        refine r_icmp_lt (tgt := 67) X dX2_valueOf_49 (by decide) hf (fun hc hf => ?_) (fun hc hf => ?_)
        · exact w_X2_valueOf_b67 X ho hp1 hw (lv_sub hl [2, 3] rfl) hf
        · refine lv_iload hx hb dX2_valueOf_52 (lv_at hl 5 rfl) ?_
          refine lv_iload hx hb dX2_valueOf_54 (lv_at hl 0 rfl) ?_
          refine r_isub X dX2_valueOf_56 ?_
          refine lv_iconst (v := mI 3) hx hb dX2_valueOf_57 rfl ?_
          refine r_iadd X dX2_valueOf_58 ?_
          refine lv_aload_n hx hb dX2_valueOf_59 rfl (lv_at hl 2 rfl) ?_
          refine r_getr (o + 2) X hw ho.1 fd_2_1 rfl rfl lf_X2_13 dX2_valueOf_60 ?_
          refine r_ileni (80 : Int) rfl X hw ho.2.2 dX2_valueOf_63 ?_
          refine r_icmp_le (tgt := 69) X dX2_valueOf_64 (by decide) hf (fun hc hf => ?_) (fun hc hf => ?_)
          · refine lv_iload hx hb dX2_valueOf_69 (lv_at hl 5 rfl) ?_
            refine lv_iload hx hb dX2_valueOf_71 (lv_at hl 0 rfl) ?_
            refine r_isub X dX2_valueOf_73 ?_
            refine r_leti hf (fun y106 hf => ?_)
            refine lv_istore (lv' := [(4, .int (mI y106)), (7, .int (mI r104)), (6, .int (mI y103)), (0, .ref (ad o)), (1, .ref (ad p1)), (3, .int (mI x3)), (5, .int (mI x5))]) hx hb dX2_valueOf_74 hl (by decide) rfl (fun ls hl => ?_)
            refine lv_aload_n hx hb dX2_valueOf_76 rfl (lv_at hl 3 rfl) ?_
            refine r_getr (o + 2) X hw ho.1 fd_2_1 rfl rfl lf_X2_13 dX2_valueOf_77 ?_
            refine lv_iload hx hb dX2_valueOf_80 (lv_at hl 0 rfl) ?_
            refine r_iald (80 : Int) rfl X hw ho.2.2 dX2_valueOf_82 hf (fun hf => ?_)
            refine r_leti hf (fun y107 hf => ?_)
            refine lv_istore (lv' := [(8, .int (mI y107)), (4, .int (mI y106)), (7, .int (mI r104)), (6, .int (mI y103)), (0, .ref (ad o)), (1, .ref (ad p1)), (3, .int (mI x3)), (5, .int (mI x5))]) hx hb dX2_valueOf_83 hl (by decide) rfl (fun ls hl => ?_)
            refine lv_aload_n hx hb dX2_valueOf_85 rfl (lv_at hl 4 rfl) ?_
            refine r_getr (o + 2) X hw ho.1 fd_2_1 rfl rfl lf_X2_13 dX2_valueOf_86 ?_
            refine lv_iload hx hb dX2_valueOf_89 (lv_at hl 1 rfl) ?_
            refine lv_iconst (v := mI 1) hx hb dX2_valueOf_91 rfl ?_
            refine r_iadd X dX2_valueOf_92 ?_
            refine r_iald (80 : Int) rfl X hw ho.2.2 dX2_valueOf_93 hf (fun hf => ?_)
            refine r_leti hf (fun y108 hf => ?_)
            refine lv_istore (lv' := [(9, .int (mI y108)), (8, .int (mI y107)), (4, .int (mI y106)), (7, .int (mI r104)), (6, .int (mI y103)), (0, .ref (ad o)), (1, .ref (ad p1)), (3, .int (mI x3)), (5, .int (mI x5))]) hx hb dX2_valueOf_94 hl (by decide) rfl (fun ls hl => ?_)
            refine lv_iload hx hb dX2_valueOf_96 (lv_at hl 4 rfl) ?_
            refine lv_iconst (v := mI 2) hx hb dX2_valueOf_98 rfl ?_
            refine r_icmp_ge (tgt := 114) X dX2_valueOf_99 (by decide) hf (fun hc hf => ?_) (fun hc hf => ?_)
            · exact w_X2_valueOf_b114 X ho hp1 hk10 hw (lv_sub hl [5, 6, 7, 2, 8, 4, 1, 0] rfl) hf
            · refine lv_aload_n hx hb dX2_valueOf_102 rfl (lv_at hl 6 rfl) ?_
              refine r_getr (p1 + 4) X hw hp1.1 fd_5_3 rfl rfl lf_X2_22 dX2_valueOf_103 ?_
              refine lv_iload hx hb dX2_valueOf_106 (lv_at hl 8 rfl) ?_
              refine r_iald (1600 : Int) rfl X hw hp1.2.2.2.2 dX2_valueOf_108 hf (fun hf => ?_)
              refine lv_bipush (v := mI 16) hx hb dX2_valueOf_109 (by decide) ?_
              refine r_idiv X dX2_valueOf_111 hf (fun hf => ?_)
              refine r_leti hf (fun y109 hf => ?_)
              refine lv_istore (lv' := [(8, .int (mI y109)), (9, .int (mI y108)), (4, .int (mI y106)), (7, .int (mI r104)), (6, .int (mI y103)), (0, .ref (ad o)), (1, .ref (ad p1)), (3, .int (mI x3)), (5, .int (mI x5))]) hx hb dX2_valueOf_112 hl (by decide) rfl (fun ls hl => ?_)
              exact w_X2_valueOf_b114 X ho hp1 hk10 hw (lv_sub hl [5, 6, 7, 2, 8, 4, 0, 1] rfl) hf
          · exact w_X2_valueOf_b67 X ho hp1 hw (lv_sub hl [2, 3] rfl) hf
def g_X2_valueOf (F : Nat) (o : Nat) (p1 : Nat) (x2 x3 : Int) (σ : mMem) : mRs := mob (g_J9_max_7cf53 F x2 0 σ) (fun r1 σ2 => g_X2_valueOf_h10 F o p1 F x3 0 r1 σ2)
set_option maxRecDepth 100000 in
set_option maxHeartbeats 4000000 in
theorem c_X2_valueOf (l : Launch) (D : va_G) (cy : Nat → ClassId) (ad : Nat → Nat) (bs : Nat) (F : Nat) (o : Nat) (p1 : Nat) (x2 x3 : Int) (σ : mMem) (r : Int) (σ' : mMem) (ho : mMach o) (hp1 : mPlan p1) (hf : g_X2_valueOf F o p1 x2 x3 σ = some (r, σ')) : mCi l D cy ad bs yX2_valueOf cX2_valueOf 12 (some .int) 3 [.ref (ad o), .ref (ad p1), .int (mI x2), .int (mI x3)] σ r σ' := by
  refine mCi.of (lv := [(0, .ref (ad o)), (1, .ref (ad p1)), (2, .int (mI x2)), (3, .int (mI x3))]) km_X2_valueOf.2.2.2.2.2 (Nat.le_of_ble_eq_true rfl) rfl (fun p e s m args below meth c H locs ls X hw hl => ?_)
  obtain ⟨⟨hx, hb, -, -, -⟩, -⟩ := id X
  unfold g_X2_valueOf at hf
  refine lv_iconst (v := mI 0) hx hb dX2_valueOf_0 rfl ?_
  refine lv_istore (lv' := [(4, .int (mI 0)), (0, .ref (ad o)), (1, .ref (ad p1)), (2, .int (mI x2)), (3, .int (mI x3))]) hx hb dX2_valueOf_1 hl (by decide) rfl (fun ls hl => ?_)
  refine lv_iload_n hx hb dX2_valueOf_3 rfl (lv_at hl 3 rfl) ?_
  refine lv_iconst (v := mI 0) hx hb dX2_valueOf_4 rfl ?_
  refine r_csi (rest := []) [.int (mI x2), .int (mI 0)] X hw (fun ra σa h => c_J9_max_7cf53 l D cy ad bs F x2 0 σ ra σa  h) km_J9_max_7cf53 ks_J9_max_7cf53 lm_X2_16 dX2_valueOf_5 hl.1 rfl rfl (Nat.le_of_ble_eq_true rfl) ⟨by decide, by decide⟩ ⟨Nat.zero_le _, Nat.zero_le _⟩ hf (fun r1 σ2 _ hf H locs hw => ?_)
  refine lv_istore (lv' := [(5, .int (mI r1)), (4, .int (mI 0)), (0, .ref (ad o)), (1, .ref (ad p1)), (2, .int (mI x2)), (3, .int (mI x3))]) hx hb dX2_valueOf_8 hl (by decide) rfl (fun ls hl => ?_)
  exact w_X2_valueOf_h10 X ho hp1 _ hw (lv_sub hl [2, 3, 5, 1, 0] rfl) hf
def g_X5_hasGoes_b16 (F : Nat) (o : Nat)  (t0 : Int) (σ : mMem) : mRs := if mw t0 = 0 ∨ mw t0 = 1 then some (t0, σ) else none
set_option maxRecDepth 100000 in
set_option maxHeartbeats 4000000 in
theorem w_X5_hasGoes_b16 {p : Program} {l : Launch} {e : Env} {s : State} {m : MethodId} {args : Array Value} {below : List Frame} {meth : Method} {c : Code} {D : va_G} {cy : Nat → ClassId} {ad : Nat → Nat} {bs : Nat} {F : Nat} {o : Nat} (X : mCx p m c cX5_hasGoes 1 s args RX5 meth D cy (some .boolean)) (ho : mPlan o) {r : Int} {σ' : mMem}   {t0 : Int} {σ : mMem} {H : Heap} {locs : List Loc} {ls : Array Slot} (hw : mWd D cy ad bs true mN σ s.heap H locs) (hl : lv_has ls 1 [(0, .ref (ad o))]) (hf : g_X5_hasGoes_b16 F o t0 σ = some (r, σ')) : mGi p l e 1 s m args below meth c D cy ad bs r σ' H locs (F0 m 16 ls [.int (mI t0)]) := by
  obtain ⟨⟨hx, hb, -, -, -⟩, -⟩ := id X
  unfold g_X5_hasGoes_b16 at hf
  exact r_zret X hw dX5_hasGoes_16 hf
def g_X5_hasGoes (F : Nat) (o : Nat) (σ : mMem) : mRs := if mw (σ o 8) ≤ mw (σ o 7) then (g_X5_hasGoes_b16 F o 0 σ) else (g_X5_hasGoes_b16 F o 1 σ)
set_option maxRecDepth 100000 in
set_option maxHeartbeats 4000000 in
theorem c_X5_hasGoes (l : Launch) (D : va_G) (cy : Nat → ClassId) (ad : Nat → Nat) (bs : Nat) (F : Nat) (o : Nat)  (σ : mMem) (r : Int) (σ' : mMem) (ho : mPlan o) (hf : g_X5_hasGoes F o σ = some (r, σ')) : mCi l D cy ad bs yX5_hasGoes cX5_hasGoes 1 (some .boolean) 1 [.ref (ad o)] σ r σ' := by
  refine mCi.of (lv := [(0, .ref (ad o))]) km_X5_hasGoes.2.2.2.2.2 (Nat.le_of_ble_eq_true rfl) rfl (fun p e s m args below meth c H locs ls X hw hl => ?_)
  obtain ⟨⟨hx, hb, -, -, -⟩, -⟩ := id X
  unfold g_X5_hasGoes at hf
  refine lv_aload_n hx hb dX5_hasGoes_0 rfl (lv_at hl 0 rfl) ?_
  refine r_geti X hw ho.1 fd_5_8 rfl lf_X5_50 dX5_hasGoes_1 ?_
  refine lv_aload_n hx hb dX5_hasGoes_4 rfl (lv_at hl 0 rfl) ?_
  refine r_geti X hw ho.1 fd_5_7 rfl lf_X5_47 dX5_hasGoes_5 ?_
  refine r_icmp_le (tgt := 15) X dX5_hasGoes_8 (by decide) hf (fun hc hf => ?_) (fun hc hf => ?_)
  · refine lv_iconst (v := mI 0) hx hb dX5_hasGoes_15 rfl ?_
    exact w_X5_hasGoes_b16 X ho hw (lv_sub hl [0] rfl) hf
  · refine lv_iconst (v := mI 1) hx hb dX5_hasGoes_11 rfl ?_
    refine lv_goto (tgt := 16) hx hb dX5_hasGoes_12 (by decide) ?_
    exact w_X5_hasGoes_b16 X ho hw (lv_sub hl [0] rfl) hf
def g_X5_hasSteers_b16 (F : Nat) (o : Nat)  (t0 : Int) (σ : mMem) : mRs := if mw t0 = 0 ∨ mw t0 = 1 then some (t0, σ) else none
set_option maxRecDepth 100000 in
set_option maxHeartbeats 4000000 in
theorem w_X5_hasSteers_b16 {p : Program} {l : Launch} {e : Env} {s : State} {m : MethodId} {args : Array Value} {below : List Frame} {meth : Method} {c : Code} {D : va_G} {cy : Nat → ClassId} {ad : Nat → Nat} {bs : Nat} {F : Nat} {o : Nat} (X : mCx p m c cX5_hasSteers 1 s args RX5 meth D cy (some .boolean)) (ho : mPlan o) {r : Int} {σ' : mMem}   {t0 : Int} {σ : mMem} {H : Heap} {locs : List Loc} {ls : Array Slot} (hw : mWd D cy ad bs true mN σ s.heap H locs) (hl : lv_has ls 1 [(0, .ref (ad o))]) (hf : g_X5_hasSteers_b16 F o t0 σ = some (r, σ')) : mGi p l e 1 s m args below meth c D cy ad bs r σ' H locs (F0 m 16 ls [.int (mI t0)]) := by
  obtain ⟨⟨hx, hb, -, -, -⟩, -⟩ := id X
  unfold g_X5_hasSteers_b16 at hf
  exact r_zret X hw dX5_hasSteers_16 hf
def g_X5_hasSteers (F : Nat) (o : Nat) (σ : mMem) : mRs := if mw (σ o 6) ≤ mw (σ o 5) then (g_X5_hasSteers_b16 F o 0 σ) else (g_X5_hasSteers_b16 F o 1 σ)
set_option maxRecDepth 100000 in
set_option maxHeartbeats 4000000 in
theorem c_X5_hasSteers (l : Launch) (D : va_G) (cy : Nat → ClassId) (ad : Nat → Nat) (bs : Nat) (F : Nat) (o : Nat)  (σ : mMem) (r : Int) (σ' : mMem) (ho : mPlan o) (hf : g_X5_hasSteers F o σ = some (r, σ')) : mCi l D cy ad bs yX5_hasSteers cX5_hasSteers 1 (some .boolean) 1 [.ref (ad o)] σ r σ' := by
  refine mCi.of (lv := [(0, .ref (ad o))]) km_X5_hasSteers.2.2.2.2.2 (Nat.le_of_ble_eq_true rfl) rfl (fun p e s m args below meth c H locs ls X hw hl => ?_)
  obtain ⟨⟨hx, hb, -, -, -⟩, -⟩ := id X
  unfold g_X5_hasSteers at hf
  refine lv_aload_n hx hb dX5_hasSteers_0 rfl (lv_at hl 0 rfl) ?_
  refine r_geti X hw ho.1 fd_5_6 rfl lf_X5_44 dX5_hasSteers_1 ?_
  refine lv_aload_n hx hb dX5_hasSteers_4 rfl (lv_at hl 0 rfl) ?_
  refine r_geti X hw ho.1 fd_5_5 rfl lf_X5_41 dX5_hasSteers_5 ?_
  refine r_icmp_le (tgt := 15) X dX5_hasSteers_8 (by decide) hf (fun hc hf => ?_) (fun hc hf => ?_)
  · refine lv_iconst (v := mI 0) hx hb dX5_hasSteers_15 rfl ?_
    exact w_X5_hasSteers_b16 X ho hw (lv_sub hl [0] rfl) hf
  · refine lv_iconst (v := mI 1) hx hb dX5_hasSteers_11 rfl ?_
    refine lv_goto (tgt := 16) hx hb dX5_hasSteers_12 (by decide) ?_
    exact w_X5_hasSteers_b16 X ho hw (lv_sub hl [0] rfl) hf
def g_X10_moveBox_b272 (F : Nat) (o : Nat)  (x1 : Int) (σ : mMem) : mRs := mob (g_X10_of F o x1 3 σ) (fun r843 σ844 => mob (g_X10_set F o x1 3 (r843 - 1) σ844) (fun r845 σ846 => some (0, σ846)))
set_option maxRecDepth 100000 in
set_option maxHeartbeats 4000000 in
theorem w_X10_moveBox_b272 {p : Program} {l : Launch} {e : Env} {s : State} {m : MethodId} {args : Array Value} {below : List Frame} {meth : Method} {c : Code} {D : va_G} {cy : Nat → ClassId} {ad : Nat → Nat} {bs : Nat} {F : Nat} {o : Nat} (X : mCx p m c cX10_moveBox 7 s args RX10 meth D cy none) (ho : mWorld o) {r : Int} {σ' : mMem}   {x1 : Int} {σ : mMem} {H : Heap} {locs : List Loc} {ls : Array Slot} (hw : mWd D cy ad bs true mN σ s.heap H locs) (hl : lv_has ls 7 [(0, .ref (ad o)), (1, .int (mI x1))]) (hf : g_X10_moveBox_b272 F o x1 σ = some (r, σ')) : mGv p l e 4 s m args below meth c D cy ad bs σ' H locs (F0 m 272 ls []) := by
  obtain ⟨⟨hx, hb, -, -, -⟩, -⟩ := id X
  unfold g_X10_moveBox_b272 at hf
  refine lv_aload_n hx hb dX10_moveBox_272 rfl (lv_at hl 0 rfl) ?_
  refine lv_iload_n hx hb dX10_moveBox_273 rfl (lv_at hl 1 rfl) ?_
  refine lv_iconst (v := mI 3) hx hb dX10_moveBox_274 rfl ?_
  refine lv_aload_n hx hb dX10_moveBox_275 rfl (lv_at hl 0 rfl) ?_
  refine lv_iload_n hx hb dX10_moveBox_276 rfl (lv_at hl 1 rfl) ?_
  refine lv_iconst (v := mI 3) hx hb dX10_moveBox_277 rfl ?_
  refine r_cvi (rest := [.int (mI 3), .int (mI x1), .ref (ad o)]) [.int (mI x1), .int (mI 3)] X hw (fun ra σa h => c_X10_of l D cy ad bs F o x1 3 σ ra σa ho h) ho.1 rfl (by decide) rfl km_X10_of kv_X10_of lm_X10_65 dX10_moveBox_278 hl.1 rfl rfl (Nat.le_of_ble_eq_true rfl) ⟨by decide, by decide⟩ ⟨Nat.zero_le _, Nat.zero_le _⟩ hf (fun r843 σ844 _ hf H locs hw => ?_)
  refine lv_iconst (v := mI 1) hx hb dX10_moveBox_281 rfl ?_
  refine r_isub X dX10_moveBox_282 ?_
  refine r_cvv (rest := []) [.int (mI x1), .int (mI 3), .int (mI (r843 - 1))] X hw (fun ra σa h => c_X10_set l D cy ad bs F o x1 3 (r843 - 1) σ844 ra σa ho h) ho.1 rfl (by decide) rfl km_X10_set kv_X10_set lm_X10_61 dX10_moveBox_283 hl.1 rfl rfl (Nat.le_of_ble_eq_true rfl) ⟨by decide, by decide⟩ ⟨Nat.zero_le _, Nat.zero_le _⟩ hf (fun r845 σ846 _ hf H locs hw => ?_)
  exact r_vret X hw dX10_moveBox_286 hf
def g_X10_moveBox_b267 (F : Nat) (o : Nat)  (x1 : Int) (σ : mMem) : mRs := mob (g_X10_goAhead F o x1 σ) (fun r947 σ948 => g_X10_moveBox_b272 F o x1 σ948)
set_option maxRecDepth 100000 in
set_option maxHeartbeats 4000000 in
theorem w_X10_moveBox_b267 {p : Program} {l : Launch} {e : Env} {s : State} {m : MethodId} {args : Array Value} {below : List Frame} {meth : Method} {c : Code} {D : va_G} {cy : Nat → ClassId} {ad : Nat → Nat} {bs : Nat} {F : Nat} {o : Nat} (X : mCx p m c cX10_moveBox 7 s args RX10 meth D cy none) (ho : mWorld o) {r : Int} {σ' : mMem}   {x1 : Int} {σ : mMem} {H : Heap} {locs : List Loc} {ls : Array Slot} (hw : mWd D cy ad bs true mN σ s.heap H locs) (hl : lv_has ls 7 [(0, .ref (ad o)), (1, .int (mI x1))]) (hf : g_X10_moveBox_b267 F o x1 σ = some (r, σ')) : mGv p l e 4 s m args below meth c D cy ad bs σ' H locs (F0 m 267 ls []) := by
  obtain ⟨⟨hx, hb, -, -, -⟩, -⟩ := id X
  unfold g_X10_moveBox_b267 at hf
  refine lv_aload_n hx hb dX10_moveBox_267 rfl (lv_at hl 0 rfl) ?_
  refine lv_iload_n hx hb dX10_moveBox_268 rfl (lv_at hl 1 rfl) ?_
  refine r_cvv (rest := []) [.int (mI x1)] X hw (fun ra σa h => c_X10_goAhead l D cy ad bs F o x1 σ ra σa ho h) ho.1 rfl (by decide) rfl km_X10_goAhead kv_X10_goAhead lm_X10_141 dX10_moveBox_269 hl.1 rfl rfl (Nat.le_of_ble_eq_true rfl) ⟨by decide, by decide⟩ ⟨Nat.zero_le _, Nat.zero_le _⟩ hf (fun r947 σ948 _ hf H locs hw => ?_)
  exact w_X10_moveBox_b272 X ho hw (lv_sub hl [0, 1] rfl) hf
def g_X10_moveBox_b228 (F : Nat) (o : Nat)  (x1 t0 t1 : Int) (σ : mMem) : mRs := if 0 ≤ mw t0 ∧ mw t0 < (7 : Int) then mlm (mup σ (o + 4) (mw t0).toNat t1) (fun σ734 => if σ734 o 3 = 3 ∨ σ734 o 3 = 8 then mob (g_X5_hasGoes F (σ734 o 3).toNat σ734) (fun r736 σ737 => if mw r736 = 0 then (g_X10_moveBox_b267 F o x1 σ737) else (if σ737 o 3 = 3 ∨ σ737 o 3 = 8 then if σ737 o 3 = 3 ∨ σ737 o 3 = 8 then if σ737 o 3 = 3 ∨ σ737 o 3 = 8 then mob (g_X2_valueOf F (o + 3) (σ737 o 3).toNat (σ737 (σ737 o 3).toNat 7) (σ737 (σ737 o 3).toNat 8) σ737) (fun r741 σ742 => if mw r741 = 0 then (g_X10_moveBox_b272 F o x1 σ742) else (g_X10_moveBox_b267 F o x1 σ742)) else none else none else none)) else none) else none
set_option maxRecDepth 100000 in
set_option maxHeartbeats 4000000 in
theorem w_X10_moveBox_b228 {p : Program} {l : Launch} {e : Env} {s : State} {m : MethodId} {args : Array Value} {below : List Frame} {meth : Method} {c : Code} {D : va_G} {cy : Nat → ClassId} {ad : Nat → Nat} {bs : Nat} {F : Nat} {o : Nat} (X : mCx p m c cX10_moveBox 7 s args RX10 meth D cy none) (ho : mWorld o) {r : Int} {σ' : mMem}   {x1 t0 t1 : Int} {σ : mMem} {H : Heap} {locs : List Loc} {ls : Array Slot} (hw : mWd D cy ad bs true mN σ s.heap H locs) (hl : lv_has ls 7 [(0, .ref (ad o)), (1, .int (mI x1))]) (hf : g_X10_moveBox_b228 F o x1 t0 t1 σ = some (r, σ')) : mGv p l e 4 s m args below meth c D cy ad bs σ' H locs (F0 m 228 ls [.int (mI t1), .int (mI t0), .ref (ad (o + 4))]) := by
  obtain ⟨⟨hx, hb, -, -, -⟩, -⟩ := id X
  unfold g_X10_moveBox_b228 at hf
  refine r_iast (7 : Int) rfl X hw ho.mach.2.1 dX10_moveBox_228 hf (fun hf H locs hw => ?_)
  refine r_mem hf hw (fun σ734 hw hf => ?_)
  refine lv_aload_n hx hb dX10_moveBox_229 rfl (lv_at hl 0 rfl) ?_
  refine r_getp X hw ho.1 fd_10_3 rfl lf_X10_28 dX10_moveBox_230 hf (fun hg735 hf => ?_)
  refine r_cvi (rest := []) [] X hw (fun ra σa h => c_X5_hasGoes l D cy ad bs F (σ734 o 3).toNat σ734 ra σa (mPlan_z hg735) h) (mPlan_z hg735).1 rfl (by decide) rfl km_X5_hasGoes kv_X5_hasGoes lm_X10_132 dX10_moveBox_233 hl.1 rfl rfl (Nat.le_of_ble_eq_true rfl) ⟨by decide, by decide⟩ ⟨Nat.zero_le _, Nat.zero_le _⟩ hf (fun r736 σ737 _ hf H locs hw => ?_)
  refine r_if_eq (tgt := 267) X dX10_moveBox_236 (by decide) hf (fun hc hf => ?_) (fun hc hf => ?_)
  · exact w_X10_moveBox_b267 X ho hw (lv_sub hl [0, 1] rfl) hf
  · refine lv_aload_n hx hb dX10_moveBox_239 rfl (lv_at hl 0 rfl) ?_
    refine r_getr (o + 3) X hw ho.1 fd_10_2 rfl rfl lf_X10_24 dX10_moveBox_240 ?_
    refine lv_aload_n hx hb dX10_moveBox_243 rfl (lv_at hl 0 rfl) ?_
    refine r_getp X hw ho.1 fd_10_3 rfl lf_X10_28 dX10_moveBox_244 hf (fun hg738 hf => ?_)
    refine lv_aload_n hx hb dX10_moveBox_247 rfl (lv_at hl 0 rfl) ?_
    refine r_getp X hw ho.1 fd_10_3 rfl lf_X10_28 dX10_moveBox_248 hf (fun hg739 hf => ?_)
    refine r_geti X hw (mPlan_z hg739).1 fd_5_7 rfl lf_X10_135 dX10_moveBox_251 ?_
    refine lv_aload_n hx hb dX10_moveBox_254 rfl (lv_at hl 0 rfl) ?_
    refine r_getp X hw ho.1 fd_10_3 rfl lf_X10_28 dX10_moveBox_255 hf (fun hg740 hf => ?_)
    refine r_geti X hw (mPlan_z hg740).1 fd_5_8 rfl lf_X10_138 dX10_moveBox_258 ?_
    refine r_cvi (rest := []) [.ref (ad (σ737 o 3).toNat), .int (mI (σ737 (σ737 o 3).toNat 7)), .int (mI (σ737 (σ737 o 3).toNat 8))] X hw (fun ra σa h => c_X2_valueOf l D cy ad bs F (o + 3) (σ737 o 3).toNat (σ737 (σ737 o 3).toNat 7) (σ737 (σ737 o 3).toNat 8) σ737 ra σa ho.mach (mPlan_z hg738) h) ho.mach.1 rfl (by decide) rfl km_X2_valueOf kv_X2_valueOf lm_X10_124 dX10_moveBox_261 hl.1 rfl rfl (Nat.le_of_ble_eq_true rfl) ⟨by decide, by decide⟩ ⟨Nat.zero_le _, Nat.zero_le _⟩ hf (fun r741 σ742 _ hf H locs hw => ?_)
    refine r_if_eq (tgt := 272) X dX10_moveBox_264 (by decide) hf (fun hc hf => ?_) (fun hc hf => ?_)
    · exact w_X10_moveBox_b272 X ho hw (lv_sub hl [0, 1] rfl) hf
    · exact w_X10_moveBox_b267 X ho hw (lv_sub hl [0, 1] rfl) hf
def g_X10_moveBox_b210 (F : Nat) (o : Nat)  (x1 x6 : Int) (σ : mMem) : mRs := if mw x6 = 0 then (g_X10_moveBox_b228 F o x1 5 0 σ) else (g_X10_moveBox_b228 F o x1 5 1 σ)
set_option maxRecDepth 100000 in
set_option maxHeartbeats 4000000 in
theorem w_X10_moveBox_b210 {p : Program} {l : Launch} {e : Env} {s : State} {m : MethodId} {args : Array Value} {below : List Frame} {meth : Method} {c : Code} {D : va_G} {cy : Nat → ClassId} {ad : Nat → Nat} {bs : Nat} {F : Nat} {o : Nat} (X : mCx p m c cX10_moveBox 7 s args RX10 meth D cy none) (ho : mWorld o) {r : Int} {σ' : mMem}   {x1 x6 : Int} {σ : mMem} {H : Heap} {locs : List Loc} {ls : Array Slot} (hw : mWd D cy ad bs true mN σ s.heap H locs) (hl : lv_has ls 7 [(0, .ref (ad o)), (1, .int (mI x1)), (6, .int (mI x6))]) (hf : g_X10_moveBox_b210 F o x1 x6 σ = some (r, σ')) : mGv p l e 4 s m args below meth c D cy ad bs σ' H locs (F0 m 210 ls []) := by
  obtain ⟨⟨hx, hb, -, -, -⟩, -⟩ := id X
  unfold g_X10_moveBox_b210 at hf
  refine lv_aload_n hx hb dX10_moveBox_210 rfl (lv_at hl 0 rfl) ?_
  refine r_getr (o + 3) X hw ho.1 fd_10_2 rfl rfl lf_X10_24 dX10_moveBox_211 ?_
  refine r_getr (o + 4) X hw ho.mach.1 fd_2_0 rfl rfl lf_X10_111 dX10_moveBox_214 ?_
  refine lv_iconst (v := mI 5) hx hb dX10_moveBox_217 rfl ?_
  refine lv_iload hx hb dX10_moveBox_218 (lv_at hl 2 rfl) ?_
  refine r_if_eq (tgt := 227) X dX10_moveBox_220 (by decide) hf (fun hc hf => ?_) (fun hc hf => ?_)
  · refine lv_iconst (v := mI 0) hx hb dX10_moveBox_227 rfl ?_
    exact w_X10_moveBox_b228 X ho hw (lv_sub hl [0, 1] rfl) hf
  · refine lv_iconst (v := mI 1) hx hb dX10_moveBox_223 rfl ?_
    refine lv_goto (tgt := 228) hx hb dX10_moveBox_224 (by decide) ?_
    exact w_X10_moveBox_b228 X ho hw (lv_sub hl [0, 1] rfl) hf
def g_X10_moveBox_b207 (F : Nat) (o : Nat)  (x1 x6 t0 t1 : Int) (σ : mMem) : mRs := mob (g_X10_turnBy F o t0 t1 σ) (fun r632 σ633 => g_X10_moveBox_b210 F o x1 x6 σ633)
set_option maxRecDepth 100000 in
set_option maxHeartbeats 4000000 in
theorem w_X10_moveBox_b207 {p : Program} {l : Launch} {e : Env} {s : State} {m : MethodId} {args : Array Value} {below : List Frame} {meth : Method} {c : Code} {D : va_G} {cy : Nat → ClassId} {ad : Nat → Nat} {bs : Nat} {F : Nat} {o : Nat} (X : mCx p m c cX10_moveBox 7 s args RX10 meth D cy none) (ho : mWorld o) {r : Int} {σ' : mMem}   {x1 x6 t0 t1 : Int} {σ : mMem} {H : Heap} {locs : List Loc} {ls : Array Slot} (hw : mWd D cy ad bs true mN σ s.heap H locs) (hl : lv_has ls 7 [(0, .ref (ad o)), (1, .int (mI x1)), (6, .int (mI x6))]) (hf : g_X10_moveBox_b207 F o x1 x6 t0 t1 σ = some (r, σ')) : mGv p l e 4 s m args below meth c D cy ad bs σ' H locs (F0 m 207 ls [.int (mI t1), .int (mI t0), .ref (ad o)]) := by
  obtain ⟨⟨hx, hb, -, -, -⟩, -⟩ := id X
  unfold g_X10_moveBox_b207 at hf
  refine r_cvv (rest := []) [.int (mI t0), .int (mI t1)] X hw (fun ra σa h => c_X10_turnBy l D cy ad bs F o t0 t1 σ ra σa ho h) ho.1 rfl (by decide) rfl km_X10_turnBy kv_X10_turnBy lm_X10_128 dX10_moveBox_207 hl.1 rfl rfl (Nat.le_of_ble_eq_true rfl) ⟨by decide, by decide⟩ ⟨Nat.zero_le _, Nat.zero_le _⟩ hf (fun r632 σ633 _ hf H locs hw => ?_)
  exact w_X10_moveBox_b210 X ho hw (lv_sub hl [0, 1, 2] rfl) hf
def g_X10_moveBox_b190 (F : Nat) (o : Nat)  (x1 x6 : Int) (σ : mMem) : mRs := if mw x6 = 0 then (g_X10_moveBox_b210 F o x1 x6 σ) else (if mw x6 ≤ 0 then (g_X10_moveBox_b207 F o x1 x6 x1 3 σ) else (g_X10_moveBox_b207 F o x1 x6 x1 1 σ))
set_option maxRecDepth 100000 in
set_option maxHeartbeats 4000000 in
theorem w_X10_moveBox_b190 {p : Program} {l : Launch} {e : Env} {s : State} {m : MethodId} {args : Array Value} {below : List Frame} {meth : Method} {c : Code} {D : va_G} {cy : Nat → ClassId} {ad : Nat → Nat} {bs : Nat} {F : Nat} {o : Nat} (X : mCx p m c cX10_moveBox 7 s args RX10 meth D cy none) (ho : mWorld o) {r : Int} {σ' : mMem}   {x1 x6 : Int} {σ : mMem} {H : Heap} {locs : List Loc} {ls : Array Slot} (hw : mWd D cy ad bs true mN σ s.heap H locs) (hl : lv_has ls 7 [(0, .ref (ad o)), (1, .int (mI x1)), (6, .int (mI x6))]) (hf : g_X10_moveBox_b190 F o x1 x6 σ = some (r, σ')) : mGv p l e 4 s m args below meth c D cy ad bs σ' H locs (F0 m 190 ls []) := by
  obtain ⟨⟨hx, hb, -, -, -⟩, -⟩ := id X
  unfold g_X10_moveBox_b190 at hf
  refine lv_iload hx hb dX10_moveBox_190 (lv_at hl 2 rfl) ?_
  refine r_if_eq (tgt := 210) X dX10_moveBox_192 (by decide) hf (fun hc hf => ?_) (fun hc hf => ?_)
  · exact w_X10_moveBox_b210 X ho hw (lv_sub hl [0, 1, 2] rfl) hf
  · refine lv_aload_n hx hb dX10_moveBox_195 rfl (lv_at hl 0 rfl) ?_
    refine lv_iload_n hx hb dX10_moveBox_196 rfl (lv_at hl 1 rfl) ?_
    refine lv_iload hx hb dX10_moveBox_197 (lv_at hl 2 rfl) ?_
    refine r_if_le (tgt := 206) X dX10_moveBox_199 (by decide) hf (fun hc hf => ?_) (fun hc hf => ?_)
    · refine lv_iconst (v := mI 3) hx hb dX10_moveBox_206 rfl ?_
      exact w_X10_moveBox_b207 X ho hw (lv_sub hl [0, 1, 2] rfl) hf
    · refine lv_iconst (v := mI 1) hx hb dX10_moveBox_202 rfl ?_
      refine lv_goto (tgt := 207) hx hb dX10_moveBox_203 (by decide) ?_
      exact w_X10_moveBox_b207 X ho hw (lv_sub hl [0, 1, 2] rfl) hf
def g_X10_moveBox_b70 (F : Nat) (o : Nat)  (x1 x2 x3 x4 t0 t1 t2 : Int) (σ : mMem) : mRs := mob (g_X10_set F o t0 t1 t2 σ) (fun r311 σ312 => if 0 ≤ mw 0 ∧ mw 0 < (7 : Int) then mlm (mup σ312 (o + 4) (mw 0).toNat x2) (fun σ313 => if 0 ≤ mw 1 ∧ mw 1 < (7 : Int) then mlm (mup σ313 (o + 4) (mw 1).toNat x3) (fun σ314 => if 0 ≤ mw 2 ∧ mw 2 < (7 : Int) then mlm (mup σ314 (o + 4) (mw 2).toNat x4) (fun σ315 => mob (g_X10_of F o x1 4 σ315) (fun r316 σ317 => if 0 ≤ mw 3 ∧ mw 3 < (7 : Int) then mlm (mup σ317 (o + 4) (mw 3).toNat r316) (fun σ318 => if 0 ≤ mw 4 ∧ mw 4 < (7 : Int) then mlm (mup σ318 (o + 4) (mw 4).toNat (σ318 o 4)) (fun σ319 => mob (g_X10_of F o x1 3 σ319) (fun r320 σ321 => if 0 ≤ mw 6 ∧ mw 6 < (7 : Int) then mlm (mup σ321 (o + 4) (mw 6).toNat r320) (fun σ322 => mlet (x3 - x2) (fun y323 => if σ322 o 3 = 3 ∨ σ322 o 3 = 8 then mob (g_X5_hasSteers F (σ322 o 3).toNat σ322) (fun r325 σ326 => if mw r325 = 0 then (g_X10_moveBox_b190 F o x1 y323 σ326) else (if σ326 o 3 = 3 ∨ σ326 o 3 = 8 then if σ326 o 3 = 3 ∨ σ326 o 3 = 8 then if σ326 o 3 = 3 ∨ σ326 o 3 = 8 then mob (g_X2_valueOf F (o + 3) (σ326 o 3).toNat (σ326 (σ326 o 3).toNat 5) (σ326 (σ326 o 3).toNat 6) σ326) (fun r330 σ331 => g_X10_moveBox_b190 F o x1 r330 σ331) else none else none else none)) else none)) else none)) else none) else none)) else none) else none) else none)
set_option maxRecDepth 100000 in
set_option maxHeartbeats 4000000 in
theorem w_X10_moveBox_b70 {p : Program} {l : Launch} {e : Env} {s : State} {m : MethodId} {args : Array Value} {below : List Frame} {meth : Method} {c : Code} {D : va_G} {cy : Nat → ClassId} {ad : Nat → Nat} {bs : Nat} {F : Nat} {o : Nat} (X : mCx p m c cX10_moveBox 7 s args RX10 meth D cy none) (ho : mWorld o) {r : Int} {σ' : mMem}   {x1 x2 x3 x4 t0 t1 t2 : Int} {σ : mMem} {H : Heap} {locs : List Loc} {ls : Array Slot} (hw : mWd D cy ad bs true mN σ s.heap H locs) (hl : lv_has ls 7 [(0, .ref (ad o)), (1, .int (mI x1)), (2, .int (mI x2)), (3, .int (mI x3)), (4, .int (mI x4))]) (hf : g_X10_moveBox_b70 F o x1 x2 x3 x4 t0 t1 t2 σ = some (r, σ')) : mGv p l e 4 s m args below meth c D cy ad bs σ' H locs (F0 m 70 ls [.int (mI t2), .int (mI t1), .int (mI t0), .ref (ad o)]) := by
  obtain ⟨⟨hx, hb, -, -, -⟩, -⟩ := id X
  unfold g_X10_moveBox_b70 at hf
  refine r_cvv (rest := []) [.int (mI t0), .int (mI t1), .int (mI t2)] X hw (fun ra σa h => c_X10_set l D cy ad bs F o t0 t1 t2 σ ra σa ho h) ho.1 rfl (by decide) rfl km_X10_set kv_X10_set lm_X10_61 dX10_moveBox_70 hl.1 rfl rfl (Nat.le_of_ble_eq_true rfl) ⟨by decide, by decide⟩ ⟨Nat.zero_le _, Nat.zero_le _⟩ hf (fun r311 σ312 _ hf H locs hw => ?_)
  refine lv_aload_n hx hb dX10_moveBox_73 rfl (lv_at hl 0 rfl) ?_
  refine r_getr (o + 3) X hw ho.1 fd_10_2 rfl rfl lf_X10_24 dX10_moveBox_74 ?_
  refine r_getr (o + 4) X hw ho.mach.1 fd_2_0 rfl rfl lf_X10_111 dX10_moveBox_77 ?_
  refine lv_iconst (v := mI 0) hx hb dX10_moveBox_80 rfl ?_
  refine lv_iload_n hx hb dX10_moveBox_81 rfl (lv_at hl 2 rfl) ?_
  refine r_iast (7 : Int) rfl X hw ho.mach.2.1 dX10_moveBox_82 hf (fun hf H locs hw => ?_)
  refine r_mem hf hw (fun σ313 hw hf => ?_)
  refine lv_aload_n hx hb dX10_moveBox_83 rfl (lv_at hl 0 rfl) ?_
  refine r_getr (o + 3) X hw ho.1 fd_10_2 rfl rfl lf_X10_24 dX10_moveBox_84 ?_
  refine r_getr (o + 4) X hw ho.mach.1 fd_2_0 rfl rfl lf_X10_111 dX10_moveBox_87 ?_
  refine lv_iconst (v := mI 1) hx hb dX10_moveBox_90 rfl ?_
  refine lv_iload_n hx hb dX10_moveBox_91 rfl (lv_at hl 3 rfl) ?_
  refine r_iast (7 : Int) rfl X hw ho.mach.2.1 dX10_moveBox_92 hf (fun hf H locs hw => ?_)
  refine r_mem hf hw (fun σ314 hw hf => ?_)
  refine lv_aload_n hx hb dX10_moveBox_93 rfl (lv_at hl 0 rfl) ?_
  refine r_getr (o + 3) X hw ho.1 fd_10_2 rfl rfl lf_X10_24 dX10_moveBox_94 ?_
  refine r_getr (o + 4) X hw ho.mach.1 fd_2_0 rfl rfl lf_X10_111 dX10_moveBox_97 ?_
  refine lv_iconst (v := mI 2) hx hb dX10_moveBox_100 rfl ?_
  refine lv_iload hx hb dX10_moveBox_101 (lv_at hl 4 rfl) ?_
  refine r_iast (7 : Int) rfl X hw ho.mach.2.1 dX10_moveBox_103 hf (fun hf H locs hw => ?_)
  refine r_mem hf hw (fun σ315 hw hf => ?_)
  refine lv_aload_n hx hb dX10_moveBox_104 rfl (lv_at hl 0 rfl) ?_
  refine r_getr (o + 3) X hw ho.1 fd_10_2 rfl rfl lf_X10_24 dX10_moveBox_105 ?_
  refine r_getr (o + 4) X hw ho.mach.1 fd_2_0 rfl rfl lf_X10_111 dX10_moveBox_108 ?_
  refine lv_iconst (v := mI 3) hx hb dX10_moveBox_111 rfl ?_
  refine lv_aload_n hx hb dX10_moveBox_112 rfl (lv_at hl 0 rfl) ?_
  refine lv_iload_n hx hb dX10_moveBox_113 rfl (lv_at hl 1 rfl) ?_
  refine lv_iconst (v := mI 4) hx hb dX10_moveBox_114 rfl ?_
  refine r_cvi (rest := [.int (mI 3), .ref (ad (o + 4))]) [.int (mI x1), .int (mI 4)] X hw (fun ra σa h => c_X10_of l D cy ad bs F o x1 4 σ315 ra σa ho h) ho.1 rfl (by decide) rfl km_X10_of kv_X10_of lm_X10_65 dX10_moveBox_115 hl.1 rfl rfl (Nat.le_of_ble_eq_true rfl) ⟨by decide, by decide⟩ ⟨Nat.zero_le _, Nat.zero_le _⟩ hf (fun r316 σ317 _ hf H locs hw => ?_)
  refine r_iast (7 : Int) rfl X hw ho.mach.2.1 dX10_moveBox_118 hf (fun hf H locs hw => ?_)
  refine r_mem hf hw (fun σ318 hw hf => ?_)
  refine lv_aload_n hx hb dX10_moveBox_119 rfl (lv_at hl 0 rfl) ?_
  refine r_getr (o + 3) X hw ho.1 fd_10_2 rfl rfl lf_X10_24 dX10_moveBox_120 ?_
  refine r_getr (o + 4) X hw ho.mach.1 fd_2_0 rfl rfl lf_X10_111 dX10_moveBox_123 ?_
  refine lv_iconst (v := mI 4) hx hb dX10_moveBox_126 rfl ?_
  refine lv_aload_n hx hb dX10_moveBox_127 rfl (lv_at hl 0 rfl) ?_
  refine r_geti X hw ho.1 fd_10_4 rfl lf_X10_32 dX10_moveBox_128 ?_
  refine r_iast (7 : Int) rfl X hw ho.mach.2.1 dX10_moveBox_131 hf (fun hf H locs hw => ?_)
  refine r_mem hf hw (fun σ319 hw hf => ?_)
  refine lv_aload_n hx hb dX10_moveBox_132 rfl (lv_at hl 0 rfl) ?_
  refine r_getr (o + 3) X hw ho.1 fd_10_2 rfl rfl lf_X10_24 dX10_moveBox_133 ?_
  refine r_getr (o + 4) X hw ho.mach.1 fd_2_0 rfl rfl lf_X10_111 dX10_moveBox_136 ?_
  refine lv_bipush (v := mI 6) hx hb dX10_moveBox_139 (by decide) ?_
  refine lv_aload_n hx hb dX10_moveBox_141 rfl (lv_at hl 0 rfl) ?_
  refine lv_iload_n hx hb dX10_moveBox_142 rfl (lv_at hl 1 rfl) ?_
  refine lv_iconst (v := mI 3) hx hb dX10_moveBox_143 rfl ?_
  refine r_cvi (rest := [.int (mI 6), .ref (ad (o + 4))]) [.int (mI x1), .int (mI 3)] X hw (fun ra σa h => c_X10_of l D cy ad bs F o x1 3 σ319 ra σa ho h) ho.1 rfl (by decide) rfl km_X10_of kv_X10_of lm_X10_65 dX10_moveBox_144 hl.1 rfl rfl (Nat.le_of_ble_eq_true rfl) ⟨by decide, by decide⟩ ⟨Nat.zero_le _, Nat.zero_le _⟩ hf (fun r320 σ321 _ hf H locs hw => ?_)
  refine r_iast (7 : Int) rfl X hw ho.mach.2.1 dX10_moveBox_147 hf (fun hf H locs hw => ?_)
  refine r_mem hf hw (fun σ322 hw hf => ?_)
  refine lv_iload_n hx hb dX10_moveBox_148 rfl (lv_at hl 3 rfl) ?_
  refine lv_iload_n hx hb dX10_moveBox_149 rfl (lv_at hl 2 rfl) ?_
  refine r_isub X dX10_moveBox_150 ?_
  refine r_leti hf (fun y323 hf => ?_)
  refine lv_istore (lv' := [(6, .int (mI y323)), (0, .ref (ad o)), (1, .int (mI x1)), (2, .int (mI x2)), (3, .int (mI x3)), (4, .int (mI x4))]) hx hb dX10_moveBox_151 hl (by decide) rfl (fun ls hl => ?_)
  refine lv_aload_n hx hb dX10_moveBox_153 rfl (lv_at hl 1 rfl) ?_
  refine r_getp X hw ho.1 fd_10_3 rfl lf_X10_28 dX10_moveBox_154 hf (fun hg324 hf => ?_)
  refine r_cvi (rest := []) [] X hw (fun ra σa h => c_X5_hasSteers l D cy ad bs F (σ322 o 3).toNat σ322 ra σa (mPlan_z hg324) h) (mPlan_z hg324).1 rfl (by decide) rfl km_X5_hasSteers kv_X5_hasSteers lm_X10_114 dX10_moveBox_157 hl.1 rfl rfl (Nat.le_of_ble_eq_true rfl) ⟨by decide, by decide⟩ ⟨Nat.zero_le _, Nat.zero_le _⟩ hf (fun r325 σ326 _ hf H locs hw => ?_)
  refine r_if_eq (tgt := 190) X dX10_moveBox_160 (by decide) hf (fun hc hf => ?_) (fun hc hf => ?_)
  · exact w_X10_moveBox_b190 X ho hw (lv_sub hl [1, 2, 0] rfl) hf
  · refine lv_aload_n hx hb dX10_moveBox_163 rfl (lv_at hl 1 rfl) ?_
    refine r_getr (o + 3) X hw ho.1 fd_10_2 rfl rfl lf_X10_24 dX10_moveBox_164 ?_
    refine lv_aload_n hx hb dX10_moveBox_167 rfl (lv_at hl 1 rfl) ?_
    refine r_getp X hw ho.1 fd_10_3 rfl lf_X10_28 dX10_moveBox_168 hf (fun hg327 hf => ?_)
    refine lv_aload_n hx hb dX10_moveBox_171 rfl (lv_at hl 1 rfl) ?_
    refine r_getp X hw ho.1 fd_10_3 rfl lf_X10_28 dX10_moveBox_172 hf (fun hg328 hf => ?_)
    refine r_geti X hw (mPlan_z hg328).1 fd_5_5 rfl lf_X10_118 dX10_moveBox_175 ?_
    refine lv_aload_n hx hb dX10_moveBox_178 rfl (lv_at hl 1 rfl) ?_
    refine r_getp X hw ho.1 fd_10_3 rfl lf_X10_28 dX10_moveBox_179 hf (fun hg329 hf => ?_)
    refine r_geti X hw (mPlan_z hg329).1 fd_5_6 rfl lf_X10_121 dX10_moveBox_182 ?_
    refine r_cvi (rest := []) [.ref (ad (σ326 o 3).toNat), .int (mI (σ326 (σ326 o 3).toNat 5)), .int (mI (σ326 (σ326 o 3).toNat 6))] X hw (fun ra σa h => c_X2_valueOf l D cy ad bs F (o + 3) (σ326 o 3).toNat (σ326 (σ326 o 3).toNat 5) (σ326 (σ326 o 3).toNat 6) σ326 ra σa ho.mach (mPlan_z hg327) h) ho.mach.1 rfl (by decide) rfl km_X2_valueOf kv_X2_valueOf lm_X10_124 dX10_moveBox_185 hl.1 rfl rfl (Nat.le_of_ble_eq_true rfl) ⟨by decide, by decide⟩ ⟨Nat.zero_le _, Nat.zero_le _⟩ hf (fun r330 σ331 _ hf H locs hw => ?_)
    refine lv_istore (lv' := [(6, .int (mI r330)), (0, .ref (ad o)), (1, .int (mI x1)), (2, .int (mI x2)), (3, .int (mI x3)), (4, .int (mI x4))]) hx hb dX10_moveBox_188 hl (by decide) rfl (fun ls hl => ?_)
    exact w_X10_moveBox_b190 X ho hw (lv_sub hl [1, 2, 0] rfl) hf
def g_X10_moveBox_b43 (F : Nat) (o : Nat)  (x1 x2 x3 x4 t0 : Int) (σ : mMem) : mRs := if mw t0 = 0 then (mob (g_X10_of F o x1 4 σ) (fun r107 σ108 => mob (g_J9_min_7cf53 F 99 (r107 + 1) σ108) (fun r109 σ110 => g_X10_moveBox_b70 F o x1 x2 x3 x4 x1 4 r109 σ110))) else (g_X10_moveBox_b70 F o x1 x2 x3 x4 x1 4 0 σ)
set_option maxRecDepth 100000 in
set_option maxHeartbeats 4000000 in
theorem w_X10_moveBox_b43 {p : Program} {l : Launch} {e : Env} {s : State} {m : MethodId} {args : Array Value} {below : List Frame} {meth : Method} {c : Code} {D : va_G} {cy : Nat → ClassId} {ad : Nat → Nat} {bs : Nat} {F : Nat} {o : Nat} (X : mCx p m c cX10_moveBox 7 s args RX10 meth D cy none) (ho : mWorld o) {r : Int} {σ' : mMem}   {x1 x2 x3 x4 t0 : Int} {σ : mMem} {H : Heap} {locs : List Loc} {ls : Array Slot} (hw : mWd D cy ad bs true mN σ s.heap H locs) (hl : lv_has ls 7 [(0, .ref (ad o)), (1, .int (mI x1)), (2, .int (mI x2)), (3, .int (mI x3)), (4, .int (mI x4))]) (hf : g_X10_moveBox_b43 F o x1 x2 x3 x4 t0 σ = some (r, σ')) : mGv p l e 4 s m args below meth c D cy ad bs σ' H locs (F0 m 43 ls [.int (mI t0)]) := by
  obtain ⟨⟨hx, hb, -, -, -⟩, -⟩ := id X
  unfold g_X10_moveBox_b43 at hf
  refine lv_istore (lv' := [(5, .int (mI t0)), (0, .ref (ad o)), (1, .int (mI x1)), (2, .int (mI x2)), (3, .int (mI x3)), (4, .int (mI x4))]) hx hb dX10_moveBox_43 hl (by decide) rfl (fun ls hl => ?_)
  refine lv_aload_n hx hb dX10_moveBox_45 rfl (lv_at hl 1 rfl) ?_
  refine lv_iload_n hx hb dX10_moveBox_46 rfl (lv_at hl 2 rfl) ?_
  refine lv_iconst (v := mI 4) hx hb dX10_moveBox_47 rfl ?_
  refine lv_iload hx hb dX10_moveBox_48 (lv_at hl 0 rfl) ?_
  refine r_if_eq (tgt := 57) X dX10_moveBox_50 (by decide) hf (fun hc hf => ?_) (fun hc hf => ?_)
  · refine lv_bipush (v := mI 99) hx hb dX10_moveBox_57 (by decide) ?_
    refine lv_aload_n hx hb dX10_moveBox_59 rfl (lv_at hl 1 rfl) ?_
    refine lv_iload_n hx hb dX10_moveBox_60 rfl (lv_at hl 2 rfl) ?_
    refine lv_iconst (v := mI 4) hx hb dX10_moveBox_61 rfl ?_
    refine r_cvi (rest := [.int (mI 99), .int (mI 4), .int (mI x1), .ref (ad o)]) [.int (mI x1), .int (mI 4)] X hw (fun ra σa h => c_X10_of l D cy ad bs F o x1 4 σ ra σa ho h) ho.1 rfl (by decide) rfl km_X10_of kv_X10_of lm_X10_65 dX10_moveBox_62 hl.1 rfl rfl (Nat.le_of_ble_eq_true rfl) ⟨by decide, by decide⟩ ⟨Nat.zero_le _, Nat.zero_le _⟩ hf (fun r107 σ108 _ hf H locs hw => ?_)
    refine lv_iconst (v := mI 1) hx hb dX10_moveBox_65 rfl ?_
    refine r_iadd X dX10_moveBox_66 ?_
    refine r_csi (rest := [.int (mI 4), .int (mI x1), .ref (ad o)]) [.int (mI 99), .int (mI (r107 + 1))] X hw (fun ra σa h => c_J9_min_7cf53 l D cy ad bs F 99 (r107 + 1) σ108 ra σa  h) km_J9_min_7cf53 ks_J9_min_7cf53 lm_X10_69 dX10_moveBox_67 hl.1 rfl rfl (Nat.le_of_ble_eq_true rfl) ⟨by decide, by decide⟩ ⟨Nat.zero_le _, Nat.zero_le _⟩ hf (fun r109 σ110 _ hf H locs hw => ?_)
    exact w_X10_moveBox_b70 X ho hw (lv_sub hl [1, 2, 3, 4, 5] rfl) hf
  · refine lv_iconst (v := mI 0) hx hb dX10_moveBox_53 rfl ?_
    refine lv_goto (tgt := 70) hx hb dX10_moveBox_54 (by decide) ?_
    exact w_X10_moveBox_b70 X ho hw (lv_sub hl [1, 2, 3, 4, 5] rfl) hf
def g_X10_moveBox_b38 (F : Nat) (o : Nat)  (x1 x2 x3 x4 : Int) (σ : mMem) : mRs := g_X10_moveBox_b43 F o x1 x2 x3 x4 1 σ
set_option maxRecDepth 100000 in
set_option maxHeartbeats 4000000 in
theorem w_X10_moveBox_b38 {p : Program} {l : Launch} {e : Env} {s : State} {m : MethodId} {args : Array Value} {below : List Frame} {meth : Method} {c : Code} {D : va_G} {cy : Nat → ClassId} {ad : Nat → Nat} {bs : Nat} {F : Nat} {o : Nat} (X : mCx p m c cX10_moveBox 7 s args RX10 meth D cy none) (ho : mWorld o) {r : Int} {σ' : mMem}   {x1 x2 x3 x4 : Int} {σ : mMem} {H : Heap} {locs : List Loc} {ls : Array Slot} (hw : mWd D cy ad bs true mN σ s.heap H locs) (hl : lv_has ls 7 [(0, .ref (ad o)), (1, .int (mI x1)), (2, .int (mI x2)), (3, .int (mI x3)), (4, .int (mI x4))]) (hf : g_X10_moveBox_b38 F o x1 x2 x3 x4 σ = some (r, σ')) : mGv p l e 4 s m args below meth c D cy ad bs σ' H locs (F0 m 38 ls []) := by
  obtain ⟨⟨hx, hb, -, -, -⟩, -⟩ := id X
  unfold g_X10_moveBox_b38 at hf
  refine lv_iconst (v := mI 1) hx hb dX10_moveBox_38 rfl ?_
  refine lv_goto (tgt := 43) hx hb dX10_moveBox_39 (by decide) ?_
  exact w_X10_moveBox_b43 X ho hw (lv_sub hl [0, 1, 2, 3, 4] rfl) hf
def g_X10_moveBox (F : Nat) (o : Nat) (x1 : Int) (σ : mMem) : mRs := mob (g_X10_greySeen F o x1 (-1) σ) (fun r1 σ2 => mob (g_X10_greySeen F o x1 1 σ2) (fun r3 σ4 => mob (g_X10_greySeen F o x1 0 σ4) (fun r5 σ6 => if mw 5 ≤ mw r1 then (g_X10_moveBox_b38 F o x1 r1 r3 r5 σ6) else (if mw 5 ≤ mw r3 then (g_X10_moveBox_b38 F o x1 r1 r3 r5 σ6) else (if mw r5 < mw 5 then (g_X10_moveBox_b43 F o x1 r1 r3 r5 0 σ6) else (g_X10_moveBox_b38 F o x1 r1 r3 r5 σ6))))))
set_option maxRecDepth 100000 in
set_option maxHeartbeats 4000000 in
theorem c_X10_moveBox (l : Launch) (D : va_G) (cy : Nat → ClassId) (ad : Nat → Nat) (bs : Nat) (F : Nat) (o : Nat) (x1 : Int) (σ : mMem) (r : Int) (σ' : mMem) (ho : mWorld o) (hf : g_X10_moveBox F o x1 σ = some (r, σ')) : mCv l D cy ad bs yX10_moveBox cX10_moveBox 7 none 4 [.ref (ad o), .int (mI x1)] σ σ' := by
  refine mCv.of (lv := [(0, .ref (ad o)), (1, .int (mI x1))]) km_X10_moveBox.2.2.2.2.2 (Nat.le_of_ble_eq_true rfl) rfl (fun p e s m args below meth c H locs ls X hw hl => ?_)
  obtain ⟨⟨hx, hb, -, -, -⟩, -⟩ := id X
  unfold g_X10_moveBox at hf
  refine lv_aload_n hx hb dX10_moveBox_0 rfl (lv_at hl 0 rfl) ?_
  refine lv_iload_n hx hb dX10_moveBox_1 rfl (lv_at hl 1 rfl) ?_
  refine lv_iconst (v := mI (-1)) hx hb dX10_moveBox_2 rfl ?_
  refine r_cvi (rest := []) [.int (mI x1), .int (mI (-1))] X hw (fun ra σa h => c_X10_greySeen l D cy ad bs F o x1 (-1) σ ra σa ho h) ho.1 rfl (by decide) rfl km_X10_greySeen kv_X10_greySeen lm_X10_108 dX10_moveBox_3 hl.1 rfl rfl (Nat.le_of_ble_eq_true rfl) ⟨by decide, by decide⟩ ⟨Nat.zero_le _, Nat.zero_le _⟩ hf (fun r1 σ2 _ hf H locs hw => ?_)
  refine lv_istore_n (lv' := [(2, .int (mI r1)), (0, .ref (ad o)), (1, .int (mI x1))]) hx hb dX10_moveBox_6 rfl hl (by decide) rfl (fun ls hl => ?_)
  refine lv_aload_n hx hb dX10_moveBox_7 rfl (lv_at hl 1 rfl) ?_
  refine lv_iload_n hx hb dX10_moveBox_8 rfl (lv_at hl 2 rfl) ?_
  refine lv_iconst (v := mI 1) hx hb dX10_moveBox_9 rfl ?_
  refine r_cvi (rest := []) [.int (mI x1), .int (mI 1)] X hw (fun ra σa h => c_X10_greySeen l D cy ad bs F o x1 1 σ2 ra σa ho h) ho.1 rfl (by decide) rfl km_X10_greySeen kv_X10_greySeen lm_X10_108 dX10_moveBox_10 hl.1 rfl rfl (Nat.le_of_ble_eq_true rfl) ⟨by decide, by decide⟩ ⟨Nat.zero_le _, Nat.zero_le _⟩ hf (fun r3 σ4 _ hf H locs hw => ?_)
  refine lv_istore_n (lv' := [(3, .int (mI r3)), (2, .int (mI r1)), (0, .ref (ad o)), (1, .int (mI x1))]) hx hb dX10_moveBox_13 rfl hl (by decide) rfl (fun ls hl => ?_)
  refine lv_aload_n hx hb dX10_moveBox_14 rfl (lv_at hl 2 rfl) ?_
  refine lv_iload_n hx hb dX10_moveBox_15 rfl (lv_at hl 3 rfl) ?_
  refine lv_iconst (v := mI 0) hx hb dX10_moveBox_16 rfl ?_
  refine r_cvi (rest := []) [.int (mI x1), .int (mI 0)] X hw (fun ra σa h => c_X10_greySeen l D cy ad bs F o x1 0 σ4 ra σa ho h) ho.1 rfl (by decide) rfl km_X10_greySeen kv_X10_greySeen lm_X10_108 dX10_moveBox_17 hl.1 rfl rfl (Nat.le_of_ble_eq_true rfl) ⟨by decide, by decide⟩ ⟨Nat.zero_le _, Nat.zero_le _⟩ hf (fun r5 σ6 _ hf H locs hw => ?_)
  refine lv_istore (lv' := [(4, .int (mI r5)), (3, .int (mI r3)), (2, .int (mI r1)), (0, .ref (ad o)), (1, .int (mI x1))]) hx hb dX10_moveBox_20 hl (by decide) rfl (fun ls hl => ?_)
  refine lv_iload_n hx hb dX10_moveBox_22 rfl (lv_at hl 2 rfl) ?_
  refine lv_iconst (v := mI 5) hx hb dX10_moveBox_23 rfl ?_
  refine r_icmp_ge (tgt := 38) X dX10_moveBox_24 (by decide) hf (fun hc hf => ?_) (fun hc hf => ?_)
  · exact w_X10_moveBox_b38 X ho hw (lv_sub hl [3, 4, 2, 1, 0] rfl) hf
  · refine lv_iload_n hx hb dX10_moveBox_27 rfl (lv_at hl 1 rfl) ?_
    refine lv_iconst (v := mI 5) hx hb dX10_moveBox_28 rfl ?_
    refine r_icmp_ge (tgt := 38) X dX10_moveBox_29 (by decide) hf (fun hc hf => ?_) (fun hc hf => ?_)
    · exact w_X10_moveBox_b38 X ho hw (lv_sub hl [3, 4, 2, 1, 0] rfl) hf
    · refine lv_iload hx hb dX10_moveBox_32 (lv_at hl 0 rfl) ?_
      refine lv_iconst (v := mI 5) hx hb dX10_moveBox_34 rfl ?_
      refine r_icmp_lt (tgt := 42) X dX10_moveBox_35 (by decide) hf (fun hc hf => ?_) (fun hc hf => ?_)
      · refine lv_iconst (v := mI 0) hx hb dX10_moveBox_42 rfl ?_
        exact w_X10_moveBox_b43 X ho hw (lv_sub hl [3, 4, 2, 1, 0] rfl) hf
      · exact w_X10_moveBox_b38 X ho hw (lv_sub hl [3, 4, 2, 1, 0] rfl) hf
