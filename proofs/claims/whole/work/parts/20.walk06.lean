def g_X8_addLetter_b20 (F : Nat)  (σ : mMem) : mRs := if mw 0 = 0 ∨ mw 0 = 1 then some (0, σ) else none
set_option maxRecDepth 100000 in
set_option maxHeartbeats 4000000 in
theorem w_X8_addLetter_b20 {p : Program} {l : Launch} {e : Env} {s : State} {m : MethodId} {args : Array Value} {below : List Frame} {meth : Method} {c : Code} {D : va_G} {cy : Nat → ClassId} {ad : Nat → Nat} {bs : Nat} {F : Nat}  (X : mCx p m c cX8_addLetter 6 s args RX8 meth D cy (some .boolean))  {r : Int} {σ' : mMem}    {σ : mMem} {H : Heap} {locs : List Loc} {ls : Array Slot} (hw : mWd D cy ad bs true mN σ s.heap H locs) (hl : lv_has ls 6 [(0, .ref (ad 14))]) (hf : g_X8_addLetter_b20 F  σ = some (r, σ')) : mGi p l e 2 s m args below meth c D cy ad bs r σ' H locs (F0 m 20 ls []) := by
  obtain ⟨⟨hx, hb, -, -, -⟩, -⟩ := id X
  unfold g_X8_addLetter_b20 at hf
  refine lv_iconst (v := mI 0) hx hb dX8_addLetter_20 rfl ?_
  exact r_zret X hw dX8_addLetter_21 hf
def g_X8_addLetter_b95 (F : Nat)  (x5 t0 t1 : Int) (σ : mMem) : mRs := if 0 ≤ mw t0 ∧ mw t0 < (1600 : Int) then mlm (mup σ 18 (mw t0).toNat t1) (fun σ406 => if mw x5 = 0 ∨ mw x5 = 1 then some (x5, σ406) else none) else none
set_option maxRecDepth 100000 in
set_option maxHeartbeats 4000000 in
theorem w_X8_addLetter_b95 {p : Program} {l : Launch} {e : Env} {s : State} {m : MethodId} {args : Array Value} {below : List Frame} {meth : Method} {c : Code} {D : va_G} {cy : Nat → ClassId} {ad : Nat → Nat} {bs : Nat} {F : Nat}  (X : mCx p m c cX8_addLetter 6 s args RX8 meth D cy (some .boolean))  {r : Int} {σ' : mMem}   {x5 t0 t1 : Int} {σ : mMem} {H : Heap} {locs : List Loc} {ls : Array Slot} (hw : mWd D cy ad bs true mN σ s.heap H locs) (hl : lv_has ls 6 [(0, .ref (ad 14)), (5, .int (mI x5))]) (hf : g_X8_addLetter_b95 F x5 t0 t1 σ = some (r, σ')) : mGi p l e 2 s m args below meth c D cy ad bs r σ' H locs (F0 m 95 ls [.int (mI t1), .int (mI t0), .ref (ad 18)]) := by
  obtain ⟨⟨hx, hb, -, -, -⟩, -⟩ := id X
  unfold g_X8_addLetter_b95 at hf
  refine r_iast (1600 : Int) rfl X hw sh_18 dX8_addLetter_95 hf (fun hf H locs hw => ?_)
  refine r_mem hf hw (fun σ406 hw hf => ?_)
  refine lv_iload hx hb dX8_addLetter_96 (lv_at hl 1 rfl) ?_
  exact r_zret X hw dX8_addLetter_98 hf
def g_X8_addLetter_b61 (F : Nat)  (x1 x2 x3 x4 x5 t0 t1 : Int) (σ : mMem) : mRs := if 0 ≤ mw t0 ∧ mw t0 < (1600 : Int) then mlm (mup σ 16 (mw t0).toNat t1) (fun σ303 => if mw x5 = 0 then (g_X8_addLetter_b95 F x5 x3 x1 σ303) else (if 0 ≤ mw x3 ∧ mw x3 < (1600 : Int) then mob (g_X5_shiftOf F x4 σ303) (fun r304 σ305 => g_X8_addLetter_b95 F x5 x3 (mor (σ303 18 (mw x3).toNat) (mshl ((x2 - 97) + 1) r304)) σ305) else none)) else none
set_option maxRecDepth 100000 in
set_option maxHeartbeats 4000000 in
theorem w_X8_addLetter_b61 {p : Program} {l : Launch} {e : Env} {s : State} {m : MethodId} {args : Array Value} {below : List Frame} {meth : Method} {c : Code} {D : va_G} {cy : Nat → ClassId} {ad : Nat → Nat} {bs : Nat} {F : Nat}  (X : mCx p m c cX8_addLetter 6 s args RX8 meth D cy (some .boolean))  {r : Int} {σ' : mMem}   {x1 x2 x3 x4 x5 t0 t1 : Int} {σ : mMem} {H : Heap} {locs : List Loc} {ls : Array Slot} (hw : mWd D cy ad bs true mN σ s.heap H locs) (hl : lv_has ls 6 [(0, .ref (ad 14)), (1, .int (mI x1)), (2, .int (mI x2)), (3, .int (mI x3)), (4, .int (mI x4)), (5, .int (mI x5))]) (hf : g_X8_addLetter_b61 F x1 x2 x3 x4 x5 t0 t1 σ = some (r, σ')) : mGi p l e 2 s m args below meth c D cy ad bs r σ' H locs (F0 m 61 ls [.int (mI t1), .int (mI t0), .ref (ad 16)]) := by
  obtain ⟨⟨hx, hb, -, -, -⟩, -⟩ := id X
  unfold g_X8_addLetter_b61 at hf
  refine r_iast (1600 : Int) rfl X hw sh_16 dX8_addLetter_61 hf (fun hf H locs hw => ?_)
  refine r_mem hf hw (fun σ303 hw hf => ?_)
  refine lv_aload_n hx hb dX8_addLetter_62 rfl (lv_at hl 0 rfl) ?_
  refine r_getr 18 X hw sh_14 fd_8_4 rfl rfl lf_X8_23 dX8_addLetter_63 ?_
  refine lv_iload_n hx hb dX8_addLetter_66 rfl (lv_at hl 3 rfl) ?_
  refine lv_iload hx hb dX8_addLetter_67 (lv_at hl 5 rfl) ?_
  refine r_if_eq (tgt := 94) X dX8_addLetter_69 (by decide) hf (fun hc hf => ?_) (fun hc hf => ?_)
  · refine lv_iload_n hx hb dX8_addLetter_94 rfl (lv_at hl 1 rfl) ?_
    exact w_X8_addLetter_b95 X hw (lv_sub hl [0, 5] rfl) hf
  · refine lv_aload_n hx hb dX8_addLetter_72 rfl (lv_at hl 0 rfl) ?_
    refine r_getr 18 X hw sh_14 fd_8_4 rfl rfl lf_X8_23 dX8_addLetter_73 ?_
    refine lv_iload_n hx hb dX8_addLetter_76 rfl (lv_at hl 3 rfl) ?_
    refine r_iald (1600 : Int) rfl X hw sh_18 dX8_addLetter_77 hf (fun hf => ?_)
    refine lv_iload_n hx hb dX8_addLetter_78 rfl (lv_at hl 2 rfl) ?_
    refine lv_bipush (v := mI 97) hx hb dX8_addLetter_79 (by decide) ?_
    refine r_isub X dX8_addLetter_81 ?_
    refine lv_iconst (v := mI 1) hx hb dX8_addLetter_82 rfl ?_
    refine r_iadd X dX8_addLetter_83 ?_
    refine lv_iload hx hb dX8_addLetter_84 (lv_at hl 4 rfl) ?_
    refine r_csi (rest := [.int (mI ((x2 - 97) + 1)), .int (mI (σ303 18 (mw x3).toNat)), .int (mI x3), .ref (ad 18)]) [.int (mI x4)] X hw (fun ra σa h => c_X5_shiftOf l D cy ad bs F x4 σ303 ra σa  h) km_X5_shiftOf ks_X5_shiftOf lm_X8_42 dX8_addLetter_86 hl.1 rfl rfl (Nat.le_of_ble_eq_true rfl) ⟨by decide, by decide⟩ ⟨Nat.zero_le _, Nat.zero_le _⟩ hf (fun r304 σ305 _ hf H locs hw => ?_)
    refine r_ishl X dX8_addLetter_89 ?_
    refine r_ior X dX8_addLetter_90 ?_
    refine lv_goto (tgt := 95) hx hb dX8_addLetter_91 (by decide) ?_
    exact w_X8_addLetter_b95 X hw (lv_sub hl [0, 5] rfl) hf
def g_X8_addLetter_b44 (F : Nat)  (x1 x2 x3 x4 t0 : Int) (σ : mMem) : mRs := if mw t0 = 0 then (g_X8_addLetter_b61 F x1 x2 x3 x4 t0 x3 5 σ) else (g_X8_addLetter_b61 F x1 x2 x3 x4 t0 x3 1 σ)
set_option maxRecDepth 100000 in
set_option maxHeartbeats 4000000 in
theorem w_X8_addLetter_b44 {p : Program} {l : Launch} {e : Env} {s : State} {m : MethodId} {args : Array Value} {below : List Frame} {meth : Method} {c : Code} {D : va_G} {cy : Nat → ClassId} {ad : Nat → Nat} {bs : Nat} {F : Nat}  (X : mCx p m c cX8_addLetter 6 s args RX8 meth D cy (some .boolean))  {r : Int} {σ' : mMem}   {x1 x2 x3 x4 t0 : Int} {σ : mMem} {H : Heap} {locs : List Loc} {ls : Array Slot} (hw : mWd D cy ad bs true mN σ s.heap H locs) (hl : lv_has ls 6 [(0, .ref (ad 14)), (1, .int (mI x1)), (2, .int (mI x2)), (3, .int (mI x3)), (4, .int (mI x4))]) (hf : g_X8_addLetter_b44 F x1 x2 x3 x4 t0 σ = some (r, σ')) : mGi p l e 2 s m args below meth c D cy ad bs r σ' H locs (F0 m 44 ls [.int (mI t0)]) := by
  obtain ⟨⟨hx, hb, -, -, -⟩, -⟩ := id X
  unfold g_X8_addLetter_b44 at hf
  refine lv_istore (lv' := [(5, .int (mI t0)), (0, .ref (ad 14)), (1, .int (mI x1)), (2, .int (mI x2)), (3, .int (mI x3)), (4, .int (mI x4))]) hx hb dX8_addLetter_44 hl (by decide) rfl (fun ls hl => ?_)
  refine lv_aload_n hx hb dX8_addLetter_46 rfl (lv_at hl 1 rfl) ?_
  refine r_getr 16 X hw sh_14 fd_8_2 rfl rfl lf_X8_17 dX8_addLetter_47 ?_
  refine lv_iload_n hx hb dX8_addLetter_50 rfl (lv_at hl 4 rfl) ?_
  refine lv_iload hx hb dX8_addLetter_51 (lv_at hl 0 rfl) ?_
  refine r_if_eq (tgt := 60) X dX8_addLetter_53 (by decide) hf (fun hc hf => ?_) (fun hc hf => ?_)
  · refine lv_iconst (v := mI 5) hx hb dX8_addLetter_60 rfl ?_
    exact w_X8_addLetter_b61 X hw (lv_sub hl [1, 2, 3, 4, 5, 0] rfl) hf
  · refine lv_iconst (v := mI 1) hx hb dX8_addLetter_56 rfl ?_
    refine lv_goto (tgt := 61) hx hb dX8_addLetter_57 (by decide) ?_
    exact w_X8_addLetter_b61 X hw (lv_sub hl [1, 2, 3, 4, 5, 0] rfl) hf
def g_X8_addLetter (F : Nat) (x1 x2 : Int) (σ : mMem) : mRs := mlet ((σ 14 5) - 1) (fun y1 => if mw y1 < 0 then (g_X8_addLetter_b20 F σ) else (if mw y1 < mw 1600 then (if 0 ≤ mw y1 ∧ mw y1 < (1600 : Int) then mlet (x1 - (σ 17 (mw y1).toNat)) (fun y2 => if mw 6 ≤ mw y2 then (g_X8_addLetter_b44 F x1 x2 y1 y2 0 σ) else (g_X8_addLetter_b44 F x1 x2 y1 y2 1 σ)) else none) else (g_X8_addLetter_b20 F σ)))
set_option maxRecDepth 100000 in
set_option maxHeartbeats 4000000 in
theorem c_X8_addLetter (l : Launch) (D : va_G) (cy : Nat → ClassId) (ad : Nat → Nat) (bs : Nat) (F : Nat)  (x1 x2 : Int) (σ : mMem) (r : Int) (σ' : mMem)  (hf : g_X8_addLetter F x1 x2 σ = some (r, σ')) : mCi l D cy ad bs yX8_addLetter cX8_addLetter 6 (some .boolean) 2 [.ref (ad 14), .int (mI x1), .int (mI x2)] σ r σ' := by
  refine mCi.of (lv := [(0, .ref (ad 14)), (1, .int (mI x1)), (2, .int (mI x2))]) km_X8_addLetter.2.2.2.2.2 (Nat.le_of_ble_eq_true rfl) rfl (fun p e s m args below meth c H locs ls X hw hl => ?_)
  obtain ⟨⟨hx, hb, -, -, -⟩, -⟩ := id X
  unfold g_X8_addLetter at hf
  refine lv_aload_n hx hb dX8_addLetter_0 rfl (lv_at hl 0 rfl) ?_
  refine r_geti X hw sh_14 fd_8_5 rfl lf_X8_48 dX8_addLetter_1 ?_
  refine lv_iconst (v := mI 1) hx hb dX8_addLetter_4 rfl ?_
  refine r_isub X dX8_addLetter_5 ?_
  refine r_leti hf (fun y1 hf => ?_)
  refine lv_istore_n (lv' := [(3, .int (mI y1)), (0, .ref (ad 14)), (1, .int (mI x1)), (2, .int (mI x2))]) hx hb dX8_addLetter_6 rfl hl (by decide) rfl (fun ls hl => ?_)
  refine lv_iload_n hx hb dX8_addLetter_7 rfl (lv_at hl 0 rfl) ?_
  refine r_if_lt (tgt := 20) X dX8_addLetter_8 (by decide) hf (fun hc hf => ?_) (fun hc hf => ?_)
  · exact w_X8_addLetter_b20 X hw (lv_sub hl [1] rfl) hf
  · refine lv_iload_n hx hb dX8_addLetter_11 rfl (lv_at hl 0 rfl) ?_
    refine lv_aload_n hx hb dX8_addLetter_12 rfl (lv_at hl 1 rfl) ?_
    refine r_getr 16 X hw sh_14 fd_8_2 rfl rfl lf_X8_17 dX8_addLetter_13 ?_
    refine r_ileni (1600 : Int) rfl X hw sh_16 dX8_addLetter_16 ?_
    refine r_icmp_lt (tgt := 22) X dX8_addLetter_17 (by decide) hf (fun hc hf => ?_) (fun hc hf => ?_)
    · refine lv_iload_n hx hb dX8_addLetter_22 rfl (lv_at hl 2 rfl) ?_
      refine lv_aload_n hx hb dX8_addLetter_23 rfl (lv_at hl 1 rfl) ?_
      refine r_getr 17 X hw sh_14 fd_8_3 rfl rfl lf_X8_20 dX8_addLetter_24 ?_
      refine lv_iload_n hx hb dX8_addLetter_27 rfl (lv_at hl 0 rfl) ?_
      refine r_iald (1600 : Int) rfl X hw sh_17 dX8_addLetter_28 hf (fun hf => ?_)
      refine r_isub X dX8_addLetter_29 ?_
      refine r_leti hf (fun y2 hf => ?_)
      refine lv_istore (lv' := [(4, .int (mI y2)), (3, .int (mI y1)), (0, .ref (ad 14)), (1, .int (mI x1)), (2, .int (mI x2))]) hx hb dX8_addLetter_30 hl (by decide) rfl (fun ls hl => ?_)
      refine lv_iload hx hb dX8_addLetter_32 (lv_at hl 0 rfl) ?_
      refine lv_bipush (v := mI 6) hx hb dX8_addLetter_34 (by decide) ?_
      refine r_icmp_ge (tgt := 43) X dX8_addLetter_36 (by decide) hf (fun hc hf => ?_) (fun hc hf => ?_)
      · refine lv_iconst (v := mI 0) hx hb dX8_addLetter_43 rfl ?_
        exact w_X8_addLetter_b44 X hw (lv_sub hl [2, 3, 4, 1, 0] rfl) hf
      · refine lv_iconst (v := mI 1) hx hb dX8_addLetter_39 rfl ?_
        refine lv_goto (tgt := 44) hx hb dX8_addLetter_40 (by decide) ?_
        exact w_X8_addLetter_b44 X hw (lv_sub hl [2, 3, 4, 1, 0] rfl) hf
    · exact w_X8_addLetter_b20 X hw (lv_sub hl [1] rfl) hf
def g_X8_isBlank_b17 (F : Nat)  (t0 : Int) (σ : mMem) : mRs := if mw t0 = 0 ∨ mw t0 = 1 then some (t0, σ) else none
set_option maxRecDepth 100000 in
set_option maxHeartbeats 4000000 in
theorem w_X8_isBlank_b17 {p : Program} {l : Launch} {e : Env} {s : State} {m : MethodId} {args : Array Value} {below : List Frame} {meth : Method} {c : Code} {D : va_G} {cy : Nat → ClassId} {ad : Nat → Nat} {bs : Nat} {F : Nat}  (X : mCx p m c cX8_isBlank 1 s args RX8 meth D cy (some .boolean))  {r : Int} {σ' : mMem}   {t0 : Int} {σ : mMem} {H : Heap} {locs : List Loc} {ls : Array Slot} (hw : mWd D cy ad bs true mN σ s.heap H locs) (hl : lv_has ls 1 []) (hf : g_X8_isBlank_b17 F t0 σ = some (r, σ')) : mGi p l e 1 s m args below meth c D cy ad bs r σ' H locs (F0 m 17 ls [.int (mI t0)]) := by
  obtain ⟨⟨hx, hb, -, -, -⟩, -⟩ := id X
  unfold g_X8_isBlank_b17 at hf
  exact r_zret X hw dX8_isBlank_17 hf
def g_X8_isBlank_b12 (F : Nat)  (σ : mMem) : mRs := g_X8_isBlank_b17 F 1 σ
set_option maxRecDepth 100000 in
set_option maxHeartbeats 4000000 in
theorem w_X8_isBlank_b12 {p : Program} {l : Launch} {e : Env} {s : State} {m : MethodId} {args : Array Value} {below : List Frame} {meth : Method} {c : Code} {D : va_G} {cy : Nat → ClassId} {ad : Nat → Nat} {bs : Nat} {F : Nat}  (X : mCx p m c cX8_isBlank 1 s args RX8 meth D cy (some .boolean))  {r : Int} {σ' : mMem}    {σ : mMem} {H : Heap} {locs : List Loc} {ls : Array Slot} (hw : mWd D cy ad bs true mN σ s.heap H locs) (hl : lv_has ls 1 []) (hf : g_X8_isBlank_b12 F  σ = some (r, σ')) : mGi p l e 1 s m args below meth c D cy ad bs r σ' H locs (F0 m 12 ls []) := by
  obtain ⟨⟨hx, hb, -, -, -⟩, -⟩ := id X
  unfold g_X8_isBlank_b12 at hf
  refine lv_iconst (v := mI 1) hx hb dX8_isBlank_12 rfl ?_
  refine lv_goto (tgt := 17) hx hb dX8_isBlank_13 (by decide) ?_
  exact w_X8_isBlank_b17 X hw (lv_sub hl [] rfl) hf
def g_X8_isBlank (F : Nat) (x0 : Int) (σ : mMem) : mRs := if mw x0 = mw 10 then (g_X8_isBlank_b12 F σ) else (if ¬ mw x0 = mw 32 then (g_X8_isBlank_b17 F 0 σ) else (g_X8_isBlank_b12 F σ))
set_option maxRecDepth 100000 in
set_option maxHeartbeats 4000000 in
theorem c_X8_isBlank (l : Launch) (D : va_G) (cy : Nat → ClassId) (ad : Nat → Nat) (bs : Nat) (F : Nat)  (x0 : Int) (σ : mMem) (r : Int) (σ' : mMem)  (hf : g_X8_isBlank F x0 σ = some (r, σ')) : mCi l D cy ad bs yX8_isBlank cX8_isBlank 1 (some .boolean) 1 [.int (mI x0)] σ r σ' := by
  refine mCi.of (lv := [(0, .int (mI x0))]) km_X8_isBlank.2.2.2.2.2 (Nat.le_of_ble_eq_true rfl) rfl (fun p e s m args below meth c H locs ls X hw hl => ?_)
  obtain ⟨⟨hx, hb, -, -, -⟩, -⟩ := id X
  unfold g_X8_isBlank at hf
  refine lv_iload_n hx hb dX8_isBlank_0 rfl (lv_at hl 0 rfl) ?_
  refine lv_bipush (v := mI 10) hx hb dX8_isBlank_1 (by decide) ?_
  refine r_icmp_eq (tgt := 12) X dX8_isBlank_3 (by decide) hf (fun hc hf => ?_) (fun hc hf => ?_)
  · exact w_X8_isBlank_b12 X hw (lv_sub hl [] rfl) hf
  · refine lv_iload_n hx hb dX8_isBlank_6 rfl (lv_at hl 0 rfl) ?_
    refine lv_bipush (v := mI 32) hx hb dX8_isBlank_7 (by decide) ?_
    refine r_icmp_ne (tgt := 16) X dX8_isBlank_9 (by decide) hf (fun hc hf => ?_) (fun hc hf => ?_)
    · refine lv_iconst (v := mI 0) hx hb dX8_isBlank_16 rfl ?_
      exact w_X8_isBlank_b17 X hw (lv_sub hl [] rfl) hf
    · exact w_X8_isBlank_b12 X hw (lv_sub hl [] rfl) hf
def g_X8_isDigit_b17 (F : Nat)  (t0 : Int) (σ : mMem) : mRs := if mw t0 = 0 ∨ mw t0 = 1 then some (t0, σ) else none
set_option maxRecDepth 100000 in
set_option maxHeartbeats 4000000 in
theorem w_X8_isDigit_b17 {p : Program} {l : Launch} {e : Env} {s : State} {m : MethodId} {args : Array Value} {below : List Frame} {meth : Method} {c : Code} {D : va_G} {cy : Nat → ClassId} {ad : Nat → Nat} {bs : Nat} {F : Nat}  (X : mCx p m c cX8_isDigit 1 s args RX8 meth D cy (some .boolean))  {r : Int} {σ' : mMem}   {t0 : Int} {σ : mMem} {H : Heap} {locs : List Loc} {ls : Array Slot} (hw : mWd D cy ad bs true mN σ s.heap H locs) (hl : lv_has ls 1 []) (hf : g_X8_isDigit_b17 F t0 σ = some (r, σ')) : mGi p l e 1 s m args below meth c D cy ad bs r σ' H locs (F0 m 17 ls [.int (mI t0)]) := by
  obtain ⟨⟨hx, hb, -, -, -⟩, -⟩ := id X
  unfold g_X8_isDigit_b17 at hf
  exact r_zret X hw dX8_isDigit_17 hf
def g_X8_isDigit_b16 (F : Nat)  (σ : mMem) : mRs := g_X8_isDigit_b17 F 0 σ
set_option maxRecDepth 100000 in
set_option maxHeartbeats 4000000 in
theorem w_X8_isDigit_b16 {p : Program} {l : Launch} {e : Env} {s : State} {m : MethodId} {args : Array Value} {below : List Frame} {meth : Method} {c : Code} {D : va_G} {cy : Nat → ClassId} {ad : Nat → Nat} {bs : Nat} {F : Nat}  (X : mCx p m c cX8_isDigit 1 s args RX8 meth D cy (some .boolean))  {r : Int} {σ' : mMem}    {σ : mMem} {H : Heap} {locs : List Loc} {ls : Array Slot} (hw : mWd D cy ad bs true mN σ s.heap H locs) (hl : lv_has ls 1 []) (hf : g_X8_isDigit_b16 F  σ = some (r, σ')) : mGi p l e 1 s m args below meth c D cy ad bs r σ' H locs (F0 m 16 ls []) := by
  obtain ⟨⟨hx, hb, -, -, -⟩, -⟩ := id X
  unfold g_X8_isDigit_b16 at hf
  refine lv_iconst (v := mI 0) hx hb dX8_isDigit_16 rfl ?_
  exact w_X8_isDigit_b17 X hw (lv_sub hl [] rfl) hf
def g_X8_isDigit (F : Nat) (x0 : Int) (σ : mMem) : mRs := if mw x0 < mw 48 then (g_X8_isDigit_b16 F σ) else (if mw 57 < mw x0 then (g_X8_isDigit_b16 F σ) else (g_X8_isDigit_b17 F 1 σ))
set_option maxRecDepth 100000 in
set_option maxHeartbeats 4000000 in
theorem c_X8_isDigit (l : Launch) (D : va_G) (cy : Nat → ClassId) (ad : Nat → Nat) (bs : Nat) (F : Nat)  (x0 : Int) (σ : mMem) (r : Int) (σ' : mMem)  (hf : g_X8_isDigit F x0 σ = some (r, σ')) : mCi l D cy ad bs yX8_isDigit cX8_isDigit 1 (some .boolean) 1 [.int (mI x0)] σ r σ' := by
  refine mCi.of (lv := [(0, .int (mI x0))]) km_X8_isDigit.2.2.2.2.2 (Nat.le_of_ble_eq_true rfl) rfl (fun p e s m args below meth c H locs ls X hw hl => ?_)
  obtain ⟨⟨hx, hb, -, -, -⟩, -⟩ := id X
  unfold g_X8_isDigit at hf
  refine lv_iload_n hx hb dX8_isDigit_0 rfl (lv_at hl 0 rfl) ?_
  refine lv_bipush (v := mI 48) hx hb dX8_isDigit_1 (by decide) ?_
  refine r_icmp_lt (tgt := 16) X dX8_isDigit_3 (by decide) hf (fun hc hf => ?_) (fun hc hf => ?_)
  · exact w_X8_isDigit_b16 X hw (lv_sub hl [] rfl) hf
  · refine lv_iload_n hx hb dX8_isDigit_6 rfl (lv_at hl 0 rfl) ?_
    refine lv_bipush (v := mI 57) hx hb dX8_isDigit_7 (by decide) ?_
    refine r_icmp_gt (tgt := 16) X dX8_isDigit_9 (by decide) hf (fun hc hf => ?_) (fun hc hf => ?_)
    · exact w_X8_isDigit_b16 X hw (lv_sub hl [] rfl) hf
    · refine lv_iconst (v := mI 1) hx hb dX8_isDigit_12 rfl ?_
      refine lv_goto (tgt := 17) hx hb dX8_isDigit_13 (by decide) ?_
      exact w_X8_isDigit_b17 X hw (lv_sub hl [] rfl) hf
def g_X8_isLetter_b17 (F : Nat)  (t0 : Int) (σ : mMem) : mRs := if mw t0 = 0 ∨ mw t0 = 1 then some (t0, σ) else none
set_option maxRecDepth 100000 in
set_option maxHeartbeats 4000000 in
theorem w_X8_isLetter_b17 {p : Program} {l : Launch} {e : Env} {s : State} {m : MethodId} {args : Array Value} {below : List Frame} {meth : Method} {c : Code} {D : va_G} {cy : Nat → ClassId} {ad : Nat → Nat} {bs : Nat} {F : Nat}  (X : mCx p m c cX8_isLetter 1 s args RX8 meth D cy (some .boolean))  {r : Int} {σ' : mMem}   {t0 : Int} {σ : mMem} {H : Heap} {locs : List Loc} {ls : Array Slot} (hw : mWd D cy ad bs true mN σ s.heap H locs) (hl : lv_has ls 1 []) (hf : g_X8_isLetter_b17 F t0 σ = some (r, σ')) : mGi p l e 1 s m args below meth c D cy ad bs r σ' H locs (F0 m 17 ls [.int (mI t0)]) := by
  obtain ⟨⟨hx, hb, -, -, -⟩, -⟩ := id X
  unfold g_X8_isLetter_b17 at hf
  exact r_zret X hw dX8_isLetter_17 hf
def g_X8_isLetter_b16 (F : Nat)  (σ : mMem) : mRs := g_X8_isLetter_b17 F 0 σ
set_option maxRecDepth 100000 in
set_option maxHeartbeats 4000000 in
theorem w_X8_isLetter_b16 {p : Program} {l : Launch} {e : Env} {s : State} {m : MethodId} {args : Array Value} {below : List Frame} {meth : Method} {c : Code} {D : va_G} {cy : Nat → ClassId} {ad : Nat → Nat} {bs : Nat} {F : Nat}  (X : mCx p m c cX8_isLetter 1 s args RX8 meth D cy (some .boolean))  {r : Int} {σ' : mMem}    {σ : mMem} {H : Heap} {locs : List Loc} {ls : Array Slot} (hw : mWd D cy ad bs true mN σ s.heap H locs) (hl : lv_has ls 1 []) (hf : g_X8_isLetter_b16 F  σ = some (r, σ')) : mGi p l e 1 s m args below meth c D cy ad bs r σ' H locs (F0 m 16 ls []) := by
  obtain ⟨⟨hx, hb, -, -, -⟩, -⟩ := id X
  unfold g_X8_isLetter_b16 at hf
  refine lv_iconst (v := mI 0) hx hb dX8_isLetter_16 rfl ?_
  exact w_X8_isLetter_b17 X hw (lv_sub hl [] rfl) hf
def g_X8_isLetter (F : Nat) (x0 : Int) (σ : mMem) : mRs := if mw x0 < mw 97 then (g_X8_isLetter_b16 F σ) else (if mw 122 < mw x0 then (g_X8_isLetter_b16 F σ) else (g_X8_isLetter_b17 F 1 σ))
set_option maxRecDepth 100000 in
set_option maxHeartbeats 4000000 in
theorem c_X8_isLetter (l : Launch) (D : va_G) (cy : Nat → ClassId) (ad : Nat → Nat) (bs : Nat) (F : Nat)  (x0 : Int) (σ : mMem) (r : Int) (σ' : mMem)  (hf : g_X8_isLetter F x0 σ = some (r, σ')) : mCi l D cy ad bs yX8_isLetter cX8_isLetter 1 (some .boolean) 1 [.int (mI x0)] σ r σ' := by
  refine mCi.of (lv := [(0, .int (mI x0))]) km_X8_isLetter.2.2.2.2.2 (Nat.le_of_ble_eq_true rfl) rfl (fun p e s m args below meth c H locs ls X hw hl => ?_)
  obtain ⟨⟨hx, hb, -, -, -⟩, -⟩ := id X
  unfold g_X8_isLetter at hf
  refine lv_iload_n hx hb dX8_isLetter_0 rfl (lv_at hl 0 rfl) ?_
  refine lv_bipush (v := mI 97) hx hb dX8_isLetter_1 (by decide) ?_
  refine r_icmp_lt (tgt := 16) X dX8_isLetter_3 (by decide) hf (fun hc hf => ?_) (fun hc hf => ?_)
  · exact w_X8_isLetter_b16 X hw (lv_sub hl [] rfl) hf
  · refine lv_iload_n hx hb dX8_isLetter_6 rfl (lv_at hl 0 rfl) ?_
    refine lv_bipush (v := mI 122) hx hb dX8_isLetter_7 (by decide) ?_
    refine r_icmp_gt (tgt := 16) X dX8_isLetter_9 (by decide) hf (fun hc hf => ?_) (fun hc hf => ?_)
    · exact w_X8_isLetter_b16 X hw (lv_sub hl [] rfl) hf
    · refine lv_iconst (v := mI 1) hx hb dX8_isLetter_12 rfl ?_
      refine lv_goto (tgt := 17) hx hb dX8_isLetter_13 (by decide) ?_
      exact w_X8_isLetter_b17 X hw (lv_sub hl [] rfl) hf
def g_X8_startSolid_b56 (F : Nat)  (t0 : Int) (σ : mMem) : mRs := if mw t0 = 0 ∨ mw t0 = 1 then some (t0, σ) else none
set_option maxRecDepth 100000 in
set_option maxHeartbeats 4000000 in
theorem w_X8_startSolid_b56 {p : Program} {l : Launch} {e : Env} {s : State} {m : MethodId} {args : Array Value} {below : List Frame} {meth : Method} {c : Code} {D : va_G} {cy : Nat → ClassId} {ad : Nat → Nat} {bs : Nat} {F : Nat}  (X : mCx p m c cX8_startSolid 5 s args RX8 meth D cy (some .boolean))  {r : Int} {σ' : mMem}   {t0 : Int} {σ : mMem} {H : Heap} {locs : List Loc} {ls : Array Slot} (hw : mWd D cy ad bs true mN σ s.heap H locs) (hl : lv_has ls 5 [(0, .ref (ad 14))]) (hf : g_X8_startSolid_b56 F t0 σ = some (r, σ')) : mGi p l e 2 s m args below meth c D cy ad bs r σ' H locs (F0 m 56 ls [.int (mI t0)]) := by
  obtain ⟨⟨hx, hb, -, -, -⟩, -⟩ := id X
  unfold g_X8_startSolid_b56 at hf
  exact r_zret X hw dX8_startSolid_56 hf
def g_X8_startSolid_b43 (F : Nat)  (x4 t0 t1 t2 : Int) (σ : mMem) : mRs := mob (g_X8_add F t0 t1 t2 σ) (fun r405 σ406 => if ¬ mw x4 = 0 then (g_X8_startSolid_b56 F 0 σ406) else (g_X8_startSolid_b56 F 1 σ406))
set_option maxRecDepth 100000 in
set_option maxHeartbeats 4000000 in
theorem w_X8_startSolid_b43 {p : Program} {l : Launch} {e : Env} {s : State} {m : MethodId} {args : Array Value} {below : List Frame} {meth : Method} {c : Code} {D : va_G} {cy : Nat → ClassId} {ad : Nat → Nat} {bs : Nat} {F : Nat}  (X : mCx p m c cX8_startSolid 5 s args RX8 meth D cy (some .boolean))  {r : Int} {σ' : mMem}   {x4 t0 t1 t2 : Int} {σ : mMem} {H : Heap} {locs : List Loc} {ls : Array Slot} (hw : mWd D cy ad bs true mN σ s.heap H locs) (hl : lv_has ls 5 [(0, .ref (ad 14)), (4, .int (mI x4))]) (hf : g_X8_startSolid_b43 F x4 t0 t1 t2 σ = some (r, σ')) : mGi p l e 2 s m args below meth c D cy ad bs r σ' H locs (F0 m 43 ls [.int (mI t2), .int (mI t1), .int (mI t0), .ref (ad 14)]) := by
  obtain ⟨⟨hx, hb, -, -, -⟩, -⟩ := id X
  unfold g_X8_startSolid_b43 at hf
  refine r_cvv (rest := []) [.int (mI t0), .int (mI t1), .int (mI t2)] X hw (fun ra σa h => c_X8_add l D cy ad bs F t0 t1 t2 σ ra σa  h) sh_14 rfl (by decide) rfl km_X8_add kv_X8_add lm_X8_97 dX8_startSolid_43 hl.1 rfl rfl (Nat.le_of_ble_eq_true rfl) ⟨by decide, by decide⟩ ⟨Nat.zero_le _, Nat.zero_le _⟩ hf (fun r405 σ406 _ hf H locs hw => ?_)
  refine lv_iload hx hb dX8_startSolid_46 (lv_at hl 1 rfl) ?_
  refine r_if_ne (tgt := 55) X dX8_startSolid_48 (by decide) hf (fun hc hf => ?_) (fun hc hf => ?_)
  · refine lv_iconst (v := mI 0) hx hb dX8_startSolid_55 rfl ?_
    exact w_X8_startSolid_b56 X hw (lv_sub hl [0] rfl) hf
  · refine lv_iconst (v := mI 1) hx hb dX8_startSolid_51 rfl ?_
    refine lv_goto (tgt := 56) hx hb dX8_startSolid_52 (by decide) ?_
    exact w_X8_startSolid_b56 X hw (lv_sub hl [0] rfl) hf
def g_X8_startSolid_b32 (F : Nat)  (x2 x4 t0 : Int) (σ : mMem) : mRs := if mw x4 = 0 then (g_X8_startSolid_b43 F x4 t0 x2 0 σ) else (g_X8_startSolid_b43 F x4 t0 x2 x2 σ)
set_option maxRecDepth 100000 in
set_option maxHeartbeats 4000000 in
theorem w_X8_startSolid_b32 {p : Program} {l : Launch} {e : Env} {s : State} {m : MethodId} {args : Array Value} {below : List Frame} {meth : Method} {c : Code} {D : va_G} {cy : Nat → ClassId} {ad : Nat → Nat} {bs : Nat} {F : Nat}  (X : mCx p m c cX8_startSolid 5 s args RX8 meth D cy (some .boolean))  {r : Int} {σ' : mMem}   {x2 x4 t0 : Int} {σ : mMem} {H : Heap} {locs : List Loc} {ls : Array Slot} (hw : mWd D cy ad bs true mN σ s.heap H locs) (hl : lv_has ls 5 [(0, .ref (ad 14)), (2, .int (mI x2)), (4, .int (mI x4))]) (hf : g_X8_startSolid_b32 F x2 x4 t0 σ = some (r, σ')) : mGi p l e 2 s m args below meth c D cy ad bs r σ' H locs (F0 m 32 ls [.int (mI t0), .ref (ad 14)]) := by
  obtain ⟨⟨hx, hb, -, -, -⟩, -⟩ := id X
  unfold g_X8_startSolid_b32 at hf
  refine lv_iload_n hx hb dX8_startSolid_32 rfl (lv_at hl 1 rfl) ?_
  refine lv_iload hx hb dX8_startSolid_33 (lv_at hl 2 rfl) ?_
  refine r_if_eq (tgt := 42) X dX8_startSolid_35 (by decide) hf (fun hc hf => ?_) (fun hc hf => ?_)
  · refine lv_iconst (v := mI 0) hx hb dX8_startSolid_42 rfl ?_
    exact w_X8_startSolid_b43 X hw (lv_sub hl [0, 2] rfl) hf
  · refine lv_iload_n hx hb dX8_startSolid_38 rfl (lv_at hl 1 rfl) ?_
    refine lv_goto (tgt := 43) hx hb dX8_startSolid_39 (by decide) ?_
    exact w_X8_startSolid_b43 X hw (lv_sub hl [0, 2] rfl) hf
def g_X8_startSolid_b19 (F : Nat)  (x1 x2 t0 : Int) (σ : mMem) : mRs := if mw t0 = 0 then (g_X8_startSolid_b32 F x2 t0 x1 σ) else (g_X8_startSolid_b32 F x2 t0 5 σ)
set_option maxRecDepth 100000 in
set_option maxHeartbeats 4000000 in
theorem w_X8_startSolid_b19 {p : Program} {l : Launch} {e : Env} {s : State} {m : MethodId} {args : Array Value} {below : List Frame} {meth : Method} {c : Code} {D : va_G} {cy : Nat → ClassId} {ad : Nat → Nat} {bs : Nat} {F : Nat}  (X : mCx p m c cX8_startSolid 5 s args RX8 meth D cy (some .boolean))  {r : Int} {σ' : mMem}   {x1 x2 t0 : Int} {σ : mMem} {H : Heap} {locs : List Loc} {ls : Array Slot} (hw : mWd D cy ad bs true mN σ s.heap H locs) (hl : lv_has ls 5 [(0, .ref (ad 14)), (1, .int (mI x1)), (2, .int (mI x2))]) (hf : g_X8_startSolid_b19 F x1 x2 t0 σ = some (r, σ')) : mGi p l e 2 s m args below meth c D cy ad bs r σ' H locs (F0 m 19 ls [.int (mI t0)]) := by
  obtain ⟨⟨hx, hb, -, -, -⟩, -⟩ := id X
  unfold g_X8_startSolid_b19 at hf
  refine lv_istore (lv' := [(4, .int (mI t0)), (0, .ref (ad 14)), (1, .int (mI x1)), (2, .int (mI x2))]) hx hb dX8_startSolid_19 hl (by decide) rfl (fun ls hl => ?_)
  refine lv_aload_n hx hb dX8_startSolid_21 rfl (lv_at hl 1 rfl) ?_
  refine lv_iload hx hb dX8_startSolid_22 (lv_at hl 0 rfl) ?_
  refine r_if_eq (tgt := 31) X dX8_startSolid_24 (by decide) hf (fun hc hf => ?_) (fun hc hf => ?_)
  · refine lv_iload_n hx hb dX8_startSolid_31 rfl (lv_at hl 2 rfl) ?_
    exact w_X8_startSolid_b32 X hw (lv_sub hl [1, 3, 0] rfl) hf
  · refine lv_iconst (v := mI 5) hx hb dX8_startSolid_27 rfl ?_
    refine lv_goto (tgt := 32) hx hb dX8_startSolid_28 (by decide) ?_
    exact w_X8_startSolid_b32 X hw (lv_sub hl [1, 3, 0] rfl) hf
def g_X8_startSolid_b14 (F : Nat)  (x1 x2 : Int) (σ : mMem) : mRs := g_X8_startSolid_b19 F x1 x2 1 σ
set_option maxRecDepth 100000 in
set_option maxHeartbeats 4000000 in
theorem w_X8_startSolid_b14 {p : Program} {l : Launch} {e : Env} {s : State} {m : MethodId} {args : Array Value} {below : List Frame} {meth : Method} {c : Code} {D : va_G} {cy : Nat → ClassId} {ad : Nat → Nat} {bs : Nat} {F : Nat}  (X : mCx p m c cX8_startSolid 5 s args RX8 meth D cy (some .boolean))  {r : Int} {σ' : mMem}   {x1 x2 : Int} {σ : mMem} {H : Heap} {locs : List Loc} {ls : Array Slot} (hw : mWd D cy ad bs true mN σ s.heap H locs) (hl : lv_has ls 5 [(0, .ref (ad 14)), (1, .int (mI x1)), (2, .int (mI x2))]) (hf : g_X8_startSolid_b14 F x1 x2 σ = some (r, σ')) : mGi p l e 2 s m args below meth c D cy ad bs r σ' H locs (F0 m 14 ls []) := by
  obtain ⟨⟨hx, hb, -, -, -⟩, -⟩ := id X
  unfold g_X8_startSolid_b14 at hf
  refine lv_iconst (v := mI 1) hx hb dX8_startSolid_14 rfl ?_
  refine lv_goto (tgt := 19) hx hb dX8_startSolid_15 (by decide) ?_
  exact w_X8_startSolid_b19 X hw (lv_sub hl [0, 1, 2] rfl) hf
def g_X8_startSolid (F : Nat) (x1 x2 x3 : Int) (σ : mMem) : mRs := mob (g_X8_isLetter F x3 σ) (fun r1 σ2 => if ¬ mw r1 = 0 then (g_X8_startSolid_b14 F x1 x2 σ2) else (mob (g_X8_isDigit F x3 σ2) (fun r3 σ4 => if mw r3 = 0 then (g_X8_startSolid_b19 F x1 x2 0 σ4) else (g_X8_startSolid_b14 F x1 x2 σ4))))
set_option maxRecDepth 100000 in
set_option maxHeartbeats 4000000 in
theorem c_X8_startSolid (l : Launch) (D : va_G) (cy : Nat → ClassId) (ad : Nat → Nat) (bs : Nat) (F : Nat)  (x1 x2 x3 : Int) (σ : mMem) (r : Int) (σ' : mMem)  (hf : g_X8_startSolid F x1 x2 x3 σ = some (r, σ')) : mCi l D cy ad bs yX8_startSolid cX8_startSolid 5 (some .boolean) 2 [.ref (ad 14), .int (mI x1), .int (mI x2), .int (mI x3)] σ r σ' := by
  refine mCi.of (lv := [(0, .ref (ad 14)), (1, .int (mI x1)), (2, .int (mI x2)), (3, .int (mI x3))]) km_X8_startSolid.2.2.2.2.2 (Nat.le_of_ble_eq_true rfl) rfl (fun p e s m args below meth c H locs ls X hw hl => ?_)
  obtain ⟨⟨hx, hb, -, -, -⟩, -⟩ := id X
  unfold g_X8_startSolid at hf
  refine lv_iload_n hx hb dX8_startSolid_0 rfl (lv_at hl 3 rfl) ?_
  refine r_csi (rest := []) [.int (mI x3)] X hw (fun ra σa h => c_X8_isLetter l D cy ad bs F x3 σ ra σa  h) km_X8_isLetter ks_X8_isLetter lm_X8_80 dX8_startSolid_1 hl.1 rfl rfl (Nat.le_of_ble_eq_true rfl) ⟨by decide, by decide⟩ ⟨Nat.zero_le _, Nat.zero_le _⟩ hf (fun r1 σ2 _ hf H locs hw => ?_)
  refine r_if_ne (tgt := 14) X dX8_startSolid_4 (by decide) hf (fun hc hf => ?_) (fun hc hf => ?_)
  · exact w_X8_startSolid_b14 X hw (lv_sub hl [0, 1, 2] rfl) hf
  · refine lv_iload_n hx hb dX8_startSolid_7 rfl (lv_at hl 3 rfl) ?_
    refine r_csi (rest := []) [.int (mI x3)] X hw (fun ra σa h => c_X8_isDigit l D cy ad bs F x3 σ2 ra σa  h) km_X8_isDigit ks_X8_isDigit lm_X8_91 dX8_startSolid_8 hl.1 rfl rfl (Nat.le_of_ble_eq_true rfl) ⟨by decide, by decide⟩ ⟨Nat.zero_le _, Nat.zero_le _⟩ hf (fun r3 σ4 _ hf H locs hw => ?_)
    refine r_if_eq (tgt := 18) X dX8_startSolid_11 (by decide) hf (fun hc hf => ?_) (fun hc hf => ?_)
    · refine lv_iconst (v := mI 0) hx hb dX8_startSolid_18 rfl ?_
      exact w_X8_startSolid_b19 X hw (lv_sub hl [0, 1, 2] rfl) hf
    · exact w_X8_startSolid_b14 X hw (lv_sub hl [0, 1, 2] rfl) hf
def g_X8_scan_b124 (F : Nat)  (t0 : Int) (σ : mMem) : mRs := if mw t0 = 0 ∨ mw t0 = 1 then some (t0, σ) else none
set_option maxRecDepth 100000 in
set_option maxHeartbeats 4000000 in
theorem w_X8_scan_b124 {p : Program} {l : Launch} {e : Env} {s : State} {m : MethodId} {args : Array Value} {below : List Frame} {meth : Method} {c : Code} {D : va_G} {cy : Nat → ClassId} {ad : Nat → Nat} {bs : Nat} {F : Nat}  (X : mCx p m c cX8_scan 4 s args RX8 meth D cy (some .boolean))  {r : Int} {σ' : mMem}   {t0 : Int} {σ : mMem} {H : Heap} {locs : List Loc} {ls : Array Slot} (hw : mWd D cy ad bs true mN σ s.heap H locs) (hl : lv_has ls 4 [(0, .ref (ad 14))]) (hf : g_X8_scan_b124 F t0 σ = some (r, σ')) : mGi p l e 3 s m args below meth c D cy ad bs r σ' H locs (F0 m 124 ls [.int (mI t0)]) := by
  obtain ⟨⟨hx, hb, -, -, -⟩, -⟩ := id X
  unfold g_X8_scan_b124 at hf
  exact r_zret X hw dX8_scan_124 hf
def g_X8_scan_b123 (F : Nat)  (σ : mMem) : mRs := g_X8_scan_b124 F 0 σ
set_option maxRecDepth 100000 in
set_option maxHeartbeats 4000000 in
theorem w_X8_scan_b123 {p : Program} {l : Launch} {e : Env} {s : State} {m : MethodId} {args : Array Value} {below : List Frame} {meth : Method} {c : Code} {D : va_G} {cy : Nat → ClassId} {ad : Nat → Nat} {bs : Nat} {F : Nat}  (X : mCx p m c cX8_scan 4 s args RX8 meth D cy (some .boolean))  {r : Int} {σ' : mMem}    {σ : mMem} {H : Heap} {locs : List Loc} {ls : Array Slot} (hw : mWd D cy ad bs true mN σ s.heap H locs) (hl : lv_has ls 4 [(0, .ref (ad 14))]) (hf : g_X8_scan_b123 F  σ = some (r, σ')) : mGi p l e 3 s m args below meth c D cy ad bs r σ' H locs (F0 m 123 ls []) := by
  obtain ⟨⟨hx, hb, -, -, -⟩, -⟩ := id X
  unfold g_X8_scan_b123 at hf
  refine lv_iconst (v := mI 0) hx hb dX8_scan_123 rfl ?_
  exact w_X8_scan_b124 X hw (lv_sub hl [0] rfl) hf
def g_X8_scan_b76 (F : Nat)  (t0 : Int) (σ : mMem) : mRs := if mw t0 = 0 ∨ mw t0 = 1 then some (t0, σ) else none
set_option maxRecDepth 100000 in
set_option maxHeartbeats 4000000 in
theorem w_X8_scan_b76 {p : Program} {l : Launch} {e : Env} {s : State} {m : MethodId} {args : Array Value} {below : List Frame} {meth : Method} {c : Code} {D : va_G} {cy : Nat → ClassId} {ad : Nat → Nat} {bs : Nat} {F : Nat}  (X : mCx p m c cX8_scan 4 s args RX8 meth D cy (some .boolean))  {r : Int} {σ' : mMem}   {t0 : Int} {σ : mMem} {H : Heap} {locs : List Loc} {ls : Array Slot} (hw : mWd D cy ad bs true mN σ s.heap H locs) (hl : lv_has ls 4 [(0, .ref (ad 14))]) (hf : g_X8_scan_b76 F t0 σ = some (r, σ')) : mGi p l e 3 s m args below meth c D cy ad bs r σ' H locs (F0 m 76 ls [.int (mI t0)]) := by
  obtain ⟨⟨hx, hb, -, -, -⟩, -⟩ := id X
  unfold g_X8_scan_b76 at hf
  exact r_zret X hw dX8_scan_76 hf
def g_X8_scan_b75 (F : Nat)  (σ : mMem) : mRs := g_X8_scan_b76 F 0 σ
set_option maxRecDepth 100000 in
set_option maxHeartbeats 4000000 in
theorem w_X8_scan_b75 {p : Program} {l : Launch} {e : Env} {s : State} {m : MethodId} {args : Array Value} {below : List Frame} {meth : Method} {c : Code} {D : va_G} {cy : Nat → ClassId} {ad : Nat → Nat} {bs : Nat} {F : Nat}  (X : mCx p m c cX8_scan 4 s args RX8 meth D cy (some .boolean))  {r : Int} {σ' : mMem}    {σ : mMem} {H : Heap} {locs : List Loc} {ls : Array Slot} (hw : mWd D cy ad bs true mN σ s.heap H locs) (hl : lv_has ls 4 [(0, .ref (ad 14))]) (hf : g_X8_scan_b75 F  σ = some (r, σ')) : mGi p l e 3 s m args below meth c D cy ad bs r σ' H locs (F0 m 75 ls []) := by
  obtain ⟨⟨hx, hb, -, -, -⟩, -⟩ := id X
  unfold g_X8_scan_b75 at hf
  refine lv_iconst (v := mI 0) hx hb dX8_scan_75 rfl ?_
  exact w_X8_scan_b76 X hw (lv_sub hl [0] rfl) hf
def g_X8_scan (F : Nat) (x1 : Int) (σ : mMem) : mRs := mob (g_X7_at F x1 σ) (fun r1 σ2 => mob (g_X7_at F (x1 - 1) σ2) (fun r3 σ4 => mob (g_X8_isBlank F r1 σ4) (fun r5 σ6 => if mw r5 = 0 then (mob (g_X8_isLetter F r1 σ6) (fun r7 σ8 => if mw r7 = 0 then (mob (g_X8_isDigit F r1 σ8) (fun r9 σ10 => if mw r9 = 0 then (mob (g_X8_add F 4 x1 r1 σ10) (fun r11 σ12 => if mw 1 = 0 ∨ mw 1 = 1 then some (1, σ12) else none)) else (mob (g_X8_isDigit F r3 σ10) (fun r13 σ14 => if mw r13 = 0 then (mob (g_X8_startSolid F 3 x1 r3 σ14) (fun r15 σ16 => if mw r15 = 0 then (g_X8_scan_b123 F σ16) else (mob (g_X8_addDigit F x1 r1 σ16) (fun r17 σ18 => if mw r17 = 0 then (g_X8_scan_b123 F σ18) else (g_X8_scan_b124 F 1 σ18))))) else (mob (g_X8_addDigit F x1 r1 σ14) (fun r19 σ20 => g_X8_scan_b124 F r19 σ20)))))) else (mob (g_X8_isLetter F r3 σ8) (fun r21 σ22 => if mw r21 = 0 then (mob (g_X8_startSolid F 1 x1 r3 σ22) (fun r23 σ24 => if mw r23 = 0 then (g_X8_scan_b75 F σ24) else (mob (g_X8_addLetter F x1 r1 σ24) (fun r25 σ26 => if mw r25 = 0 then (g_X8_scan_b75 F σ26) else (g_X8_scan_b76 F 1 σ26))))) else (mob (g_X8_addLetter F x1 r1 σ22) (fun r27 σ28 => g_X8_scan_b76 F r27 σ28)))))) else (if mw 1 = 0 ∨ mw 1 = 1 then some (1, σ6) else none))))
set_option maxRecDepth 100000 in
set_option maxHeartbeats 4000000 in
theorem c_X8_scan (l : Launch) (D : va_G) (cy : Nat → ClassId) (ad : Nat → Nat) (bs : Nat) (F : Nat)  (x1 : Int) (σ : mMem) (r : Int) (σ' : mMem)  (hf : g_X8_scan F x1 σ = some (r, σ')) : mCi l D cy ad bs yX8_scan cX8_scan 4 (some .boolean) 3 [.ref (ad 14), .int (mI x1)] σ r σ' := by
  refine mCi.of (lv := [(0, .ref (ad 14)), (1, .int (mI x1))]) km_X8_scan.2.2.2.2.2 (Nat.le_of_ble_eq_true rfl) rfl (fun p e s m args below meth c H locs ls X hw hl => ?_)
  obtain ⟨⟨hx, hb, -, -, -⟩, -⟩ := id X
  unfold g_X8_scan at hf
  refine lv_aload_n hx hb dX8_scan_0 rfl (lv_at hl 0 rfl) ?_
  refine r_getr 1 X hw sh_14 fd_8_0 rfl rfl lf_X8_26 dX8_scan_1 ?_
  refine lv_iload_n hx hb dX8_scan_4 rfl (lv_at hl 1 rfl) ?_
  refine r_cvi (rest := []) [.int (mI x1)] X hw (fun ra σa h => c_X7_at l D cy ad bs F x1 σ ra σa  h) sh_1 rfl (by decide) rfl km_X7_at kv_X7_at lm_X8_74 dX8_scan_5 hl.1 rfl rfl (Nat.le_of_ble_eq_true rfl) ⟨by decide, by decide⟩ ⟨Nat.zero_le _, Nat.zero_le _⟩ hf (fun r1 σ2 _ hf H locs hw => ?_)
  refine lv_istore_n (lv' := [(2, .int (mI r1)), (0, .ref (ad 14)), (1, .int (mI x1))]) hx hb dX8_scan_8 rfl hl (by decide) rfl (fun ls hl => ?_)
  refine lv_aload_n hx hb dX8_scan_9 rfl (lv_at hl 1 rfl) ?_
  refine r_getr 1 X hw sh_14 fd_8_0 rfl rfl lf_X8_26 dX8_scan_10 ?_
  refine lv_iload_n hx hb dX8_scan_13 rfl (lv_at hl 2 rfl) ?_
  refine lv_iconst (v := mI 1) hx hb dX8_scan_14 rfl ?_
  refine r_isub X dX8_scan_15 ?_
  refine r_cvi (rest := []) [.int (mI (x1 - 1))] X hw (fun ra σa h => c_X7_at l D cy ad bs F (x1 - 1) σ2 ra σa  h) sh_1 rfl (by decide) rfl km_X7_at kv_X7_at lm_X8_74 dX8_scan_16 hl.1 rfl rfl (Nat.le_of_ble_eq_true rfl) ⟨by decide, by decide⟩ ⟨Nat.zero_le _, Nat.zero_le _⟩ hf (fun r3 σ4 _ hf H locs hw => ?_)
  refine lv_istore_n (lv' := [(3, .int (mI r3)), (2, .int (mI r1)), (0, .ref (ad 14)), (1, .int (mI x1))]) hx hb dX8_scan_19 rfl hl (by decide) rfl (fun ls hl => ?_)
  refine lv_iload_n hx hb dX8_scan_20 rfl (lv_at hl 1 rfl) ?_
  refine r_csi (rest := []) [.int (mI r1)] X hw (fun ra σa h => c_X8_isBlank l D cy ad bs F r1 σ4 ra σa  h) km_X8_isBlank ks_X8_isBlank lm_X8_77 dX8_scan_21 hl.1 rfl rfl (Nat.le_of_ble_eq_true rfl) ⟨by decide, by decide⟩ ⟨Nat.zero_le _, Nat.zero_le _⟩ hf (fun r5 σ6 _ hf H locs hw => ?_)
  refine r_if_eq (tgt := 29) X dX8_scan_24 (by decide) hf (fun hc hf => ?_) (fun hc hf => ?_)
  · refine lv_iload_n hx hb dX8_scan_29 rfl (lv_at hl 1 rfl) ?_
    refine r_csi (rest := []) [.int (mI r1)] X hw (fun ra σa h => c_X8_isLetter l D cy ad bs F r1 σ6 ra σa  h) km_X8_isLetter ks_X8_isLetter lm_X8_80 dX8_scan_30 hl.1 rfl rfl (Nat.le_of_ble_eq_true rfl) ⟨by decide, by decide⟩ ⟨Nat.zero_le _, Nat.zero_le _⟩ hf (fun r7 σ8 _ hf H locs hw => ?_)
    refine r_if_eq (tgt := 77) X dX8_scan_33 (by decide) hf (fun hc hf => ?_) (fun hc hf => ?_)
    · refine lv_iload_n hx hb dX8_scan_77 rfl (lv_at hl 1 rfl) ?_
      refine r_csi (rest := []) [.int (mI r1)] X hw (fun ra σa h => c_X8_isDigit l D cy ad bs F r1 σ8 ra σa  h) km_X8_isDigit ks_X8_isDigit lm_X8_91 dX8_scan_78 hl.1 rfl rfl (Nat.le_of_ble_eq_true rfl) ⟨by decide, by decide⟩ ⟨Nat.zero_le _, Nat.zero_le _⟩ hf (fun r9 σ10 _ hf H locs hw => ?_)
      refine r_if_eq (tgt := 125) X dX8_scan_81 (by decide) hf (fun hc hf => ?_) (fun hc hf => ?_)
      · refine lv_aload_n hx hb dX8_scan_125 rfl (lv_at hl 2 rfl) ?_
        refine lv_iconst (v := mI 4) hx hb dX8_scan_126 rfl ?_
        refine lv_iload_n hx hb dX8_scan_127 rfl (lv_at hl 3 rfl) ?_
        refine lv_iload_n hx hb dX8_scan_128 rfl (lv_at hl 1 rfl) ?_
        refine r_cvv (rest := []) [.int (mI 4), .int (mI x1), .int (mI r1)] X hw (fun ra σa h => c_X8_add l D cy ad bs F 4 x1 r1 σ10 ra σa  h) sh_14 rfl (by decide) rfl km_X8_add kv_X8_add lm_X8_97 dX8_scan_129 hl.1 rfl rfl (Nat.le_of_ble_eq_true rfl) ⟨by decide, by decide⟩ ⟨Nat.zero_le _, Nat.zero_le _⟩ hf (fun r11 σ12 _ hf H locs hw => ?_)
        refine lv_iconst (v := mI 1) hx hb dX8_scan_132 rfl ?_
        exact r_zret X hw dX8_scan_133 hf
      · refine lv_iload_n hx hb dX8_scan_84 rfl (lv_at hl 0 rfl) ?_
        refine r_csi (rest := []) [.int (mI r3)] X hw (fun ra σa h => c_X8_isDigit l D cy ad bs F r3 σ10 ra σa  h) km_X8_isDigit ks_X8_isDigit lm_X8_91 dX8_scan_85 hl.1 rfl rfl (Nat.le_of_ble_eq_true rfl) ⟨by decide, by decide⟩ ⟨Nat.zero_le _, Nat.zero_le _⟩ hf (fun r13 σ14 _ hf H locs hw => ?_)
        refine r_if_eq (tgt := 100) X dX8_scan_88 (by decide) hf (fun hc hf => ?_) (fun hc hf => ?_)
        · refine lv_aload_n hx hb dX8_scan_100 rfl (lv_at hl 2 rfl) ?_
          refine lv_iconst (v := mI 3) hx hb dX8_scan_101 rfl ?_
          refine lv_iload_n hx hb dX8_scan_102 rfl (lv_at hl 3 rfl) ?_
          refine lv_iload_n hx hb dX8_scan_103 rfl (lv_at hl 0 rfl) ?_
          refine r_cvi (rest := []) [.int (mI 3), .int (mI x1), .int (mI r3)] X hw (fun ra σa h => c_X8_startSolid l D cy ad bs F 3 x1 r3 σ14 ra σa  h) sh_14 rfl (by decide) rfl km_X8_startSolid kv_X8_startSolid lm_X8_87 dX8_scan_104 hl.1 rfl rfl (Nat.le_of_ble_eq_true rfl) ⟨by decide, by decide⟩ ⟨Nat.zero_le _, Nat.zero_le _⟩ hf (fun r15 σ16 _ hf H locs hw => ?_)
          refine r_if_eq (tgt := 123) X dX8_scan_107 (by decide) hf (fun hc hf => ?_) (fun hc hf => ?_)
          · exact w_X8_scan_b123 X hw (lv_sub hl [2] rfl) hf
          · refine lv_aload_n hx hb dX8_scan_110 rfl (lv_at hl 2 rfl) ?_
            refine lv_iload_n hx hb dX8_scan_111 rfl (lv_at hl 3 rfl) ?_
            refine lv_iload_n hx hb dX8_scan_112 rfl (lv_at hl 1 rfl) ?_
            refine r_cvi (rest := []) [.int (mI x1), .int (mI r1)] X hw (fun ra σa h => c_X8_addDigit l D cy ad bs F x1 r1 σ16 ra σa  h) sh_14 rfl (by decide) rfl km_X8_addDigit kv_X8_addDigit lm_X8_94 dX8_scan_113 hl.1 rfl rfl (Nat.le_of_ble_eq_true rfl) ⟨by decide, by decide⟩ ⟨Nat.zero_le _, Nat.zero_le _⟩ hf (fun r17 σ18 _ hf H locs hw => ?_)
            refine r_if_eq (tgt := 123) X dX8_scan_116 (by decide) hf (fun hc hf => ?_) (fun hc hf => ?_)
            · exact w_X8_scan_b123 X hw (lv_sub hl [2] rfl) hf
            · refine lv_iconst (v := mI 1) hx hb dX8_scan_119 rfl ?_
              refine lv_goto (tgt := 124) hx hb dX8_scan_120 (by decide) ?_
              exact w_X8_scan_b124 X hw (lv_sub hl [2] rfl) hf
        · refine lv_aload_n hx hb dX8_scan_91 rfl (lv_at hl 2 rfl) ?_
          refine lv_iload_n hx hb dX8_scan_92 rfl (lv_at hl 3 rfl) ?_
          refine lv_iload_n hx hb dX8_scan_93 rfl (lv_at hl 1 rfl) ?_
          refine r_cvi (rest := []) [.int (mI x1), .int (mI r1)] X hw (fun ra σa h => c_X8_addDigit l D cy ad bs F x1 r1 σ14 ra σa  h) sh_14 rfl (by decide) rfl km_X8_addDigit kv_X8_addDigit lm_X8_94 dX8_scan_94 hl.1 rfl rfl (Nat.le_of_ble_eq_true rfl) ⟨by decide, by decide⟩ ⟨Nat.zero_le _, Nat.zero_le _⟩ hf (fun r19 σ20 _ hf H locs hw => ?_)
          refine lv_goto (tgt := 124) hx hb dX8_scan_97 (by decide) ?_
          exact w_X8_scan_b124 X hw (lv_sub hl [2] rfl) hf
    · refine lv_iload_n hx hb dX8_scan_36 rfl (lv_at hl 0 rfl) ?_
      refine r_csi (rest := []) [.int (mI r3)] X hw (fun ra σa h => c_X8_isLetter l D cy ad bs F r3 σ8 ra σa  h) km_X8_isLetter ks_X8_isLetter lm_X8_80 dX8_scan_37 hl.1 rfl rfl (Nat.le_of_ble_eq_true rfl) ⟨by decide, by decide⟩ ⟨Nat.zero_le _, Nat.zero_le _⟩ hf (fun r21 σ22 _ hf H locs hw => ?_)
      refine r_if_eq (tgt := 52) X dX8_scan_40 (by decide) hf (fun hc hf => ?_) (fun hc hf => ?_)
      · refine lv_aload_n hx hb dX8_scan_52 rfl (lv_at hl 2 rfl) ?_
        refine lv_iconst (v := mI 1) hx hb dX8_scan_53 rfl ?_
        refine lv_iload_n hx hb dX8_scan_54 rfl (lv_at hl 3 rfl) ?_
        refine lv_iload_n hx hb dX8_scan_55 rfl (lv_at hl 0 rfl) ?_
        refine r_cvi (rest := []) [.int (mI 1), .int (mI x1), .int (mI r3)] X hw (fun ra σa h => c_X8_startSolid l D cy ad bs F 1 x1 r3 σ22 ra σa  h) sh_14 rfl (by decide) rfl km_X8_startSolid kv_X8_startSolid lm_X8_87 dX8_scan_56 hl.1 rfl rfl (Nat.le_of_ble_eq_true rfl) ⟨by decide, by decide⟩ ⟨Nat.zero_le _, Nat.zero_le _⟩ hf (fun r23 σ24 _ hf H locs hw => ?_)
        refine r_if_eq (tgt := 75) X dX8_scan_59 (by decide) hf (fun hc hf => ?_) (fun hc hf => ?_)
        · exact w_X8_scan_b75 X hw (lv_sub hl [2] rfl) hf
        · refine lv_aload_n hx hb dX8_scan_62 rfl (lv_at hl 2 rfl) ?_
          refine lv_iload_n hx hb dX8_scan_63 rfl (lv_at hl 3 rfl) ?_
          refine lv_iload_n hx hb dX8_scan_64 rfl (lv_at hl 1 rfl) ?_
          refine r_cvi (rest := []) [.int (mI x1), .int (mI r1)] X hw (fun ra σa h => c_X8_addLetter l D cy ad bs F x1 r1 σ24 ra σa  h) sh_14 rfl (by decide) rfl km_X8_addLetter kv_X8_addLetter lm_X8_83 dX8_scan_65 hl.1 rfl rfl (Nat.le_of_ble_eq_true rfl) ⟨by decide, by decide⟩ ⟨Nat.zero_le _, Nat.zero_le _⟩ hf (fun r25 σ26 _ hf H locs hw => ?_)
          refine r_if_eq (tgt := 75) X dX8_scan_68 (by decide) hf (fun hc hf => ?_) (fun hc hf => ?_)
          · exact w_X8_scan_b75 X hw (lv_sub hl [2] rfl) hf
          · refine lv_iconst (v := mI 1) hx hb dX8_scan_71 rfl ?_
            refine lv_goto (tgt := 76) hx hb dX8_scan_72 (by decide) ?_
            exact w_X8_scan_b76 X hw (lv_sub hl [2] rfl) hf
      · refine lv_aload_n hx hb dX8_scan_43 rfl (lv_at hl 2 rfl) ?_
        refine lv_iload_n hx hb dX8_scan_44 rfl (lv_at hl 3 rfl) ?_
        refine lv_iload_n hx hb dX8_scan_45 rfl (lv_at hl 1 rfl) ?_
        refine r_cvi (rest := []) [.int (mI x1), .int (mI r1)] X hw (fun ra σa h => c_X8_addLetter l D cy ad bs F x1 r1 σ22 ra σa  h) sh_14 rfl (by decide) rfl km_X8_addLetter kv_X8_addLetter lm_X8_83 dX8_scan_46 hl.1 rfl rfl (Nat.le_of_ble_eq_true rfl) ⟨by decide, by decide⟩ ⟨Nat.zero_le _, Nat.zero_le _⟩ hf (fun r27 σ28 _ hf H locs hw => ?_)
        refine lv_goto (tgt := 76) hx hb dX8_scan_49 (by decide) ?_
        exact w_X8_scan_b76 X hw (lv_sub hl [2] rfl) hf
  · refine lv_iconst (v := mI 1) hx hb dX8_scan_27 rfl ?_
    exact r_zret X hw dX8_scan_28 hf
def g_X8_open_h38 (F : Nat)  : Nat → Int → mMem → mRs
  | 0, _, _ => none
  | n + 1, x2, σ => if mw (σ 14 5) ≤ mw x2 then (mlm (mup σ 14 10 0) (fun σ304 => mlm (mup σ304 14 11 (-1)) (fun σ305 => mlm (mup σ305 14 6 (-1)) (fun σ306 => mob (g_X8_next F σ306) (fun r307 σ308 => some (0, σ308)))))) else (mob (g_X8_markOwnWord F x2 σ) (fun r309 σ310 => (g_X8_open_h38 F n) (x2 + 1) σ310))
set_option maxRecDepth 100000 in
set_option maxHeartbeats 4000000 in
theorem w_X8_open_h38 {p : Program} {l : Launch} {e : Env} {s : State} {m : MethodId} {args : Array Value} {below : List Frame} {meth : Method} {c : Code} {D : va_G} {cy : Nat → ClassId} {ad : Nat → Nat} {bs : Nat} {F : Nat}  (X : mCx p m c cX8_open 3 s args RX8 meth D cy none)  {r : Int} {σ' : mMem}   (n : Nat) : ∀ {x2 : Int} {σ : mMem} {H : Heap} {locs : List Loc} {ls : Array Slot} (_ : mWd D cy ad bs true mN σ s.heap H locs) (_ : lv_has ls 3 [(0, .ref (ad 14)), (2, .int (mI x2))]) (_ : g_X8_open_h38 F n x2 σ = some (r, σ')), mGv p l e 4 s m args below meth c D cy ad bs σ' H locs (F0 m 38 ls []) := by
  obtain ⟨⟨hx, hb, -, -, -⟩, -⟩ := id X
  induction n with
  | zero =>
    intro x2 σ H locs ls hw hl hf
    unfold g_X8_open_h38 at hf
    cases hf
  | succ n ih =>
    have hk38 : ∀ (x2 : Int) (σ : mMem) (H : Heap) (locs : List Loc) (ls : Array Slot), mWd D cy ad bs true mN σ s.heap H locs → lv_has ls 3 [(0, .ref (ad 14)), (2, .int (mI x2))] → g_X8_open_h38 F n x2 σ = some (r, σ') → mGv p l e 4 s m args below meth c D cy ad bs σ' H locs (F0 m 38 ls []) := fun x2 σ H locs ls hw hl hf => ih hw hl hf
    intro x2 σ H locs ls hw hl hf
    unfold g_X8_open_h38 at hf
    refine lv_iload_n hx hb dX8_open_38 rfl (lv_at hl 1 rfl) ?_
    refine lv_aload_n hx hb dX8_open_39 rfl (lv_at hl 0 rfl) ?_
    refine r_geti X hw sh_14 fd_8_5 rfl lf_X8_48 dX8_open_40 ?_
    refine r_icmp_ge (tgt := 57) X dX8_open_43 (by decide) hf (fun hc hf => ?_) (fun hc hf => ?_)
    · refine lv_aload_n hx hb dX8_open_57 rfl (lv_at hl 0 rfl) ?_
      refine lv_iconst (v := mI 0) hx hb dX8_open_58 rfl ?_
      refine r_puti X hw sh_14 fd_8_10 fp_8_10 rfl rfl lf_X8_62 dX8_open_59 (fun H locs hw => ?_)
      refine r_mem hf hw (fun σ304 hw hf => ?_)
      refine lv_aload_n hx hb dX8_open_62 rfl (lv_at hl 0 rfl) ?_
      refine lv_iconst (v := mI (-1)) hx hb dX8_open_63 rfl ?_
      refine r_puti X hw sh_14 fd_8_11 fp_8_11 rfl rfl lf_X8_65 dX8_open_64 (fun H locs hw => ?_)
      refine r_mem hf hw (fun σ305 hw hf => ?_)
      refine lv_aload_n hx hb dX8_open_67 rfl (lv_at hl 0 rfl) ?_
      refine lv_iconst (v := mI (-1)) hx hb dX8_open_68 rfl ?_
      refine r_puti X hw sh_14 fd_8_6 fp_8_6 rfl rfl lf_X8_68 dX8_open_69 (fun H locs hw => ?_)
      refine r_mem hf hw (fun σ306 hw hf => ?_)
      refine lv_aload_n hx hb dX8_open_72 rfl (lv_at hl 0 rfl) ?_
      refine r_cvv (rest := []) [] X hw (fun ra σa h => c_X8_next l D cy ad bs F σ306 ra σa  h) sh_14 rfl (by decide) rfl km_X8_next kv_X8_next lm_X8_71 dX8_open_73 hl.1 rfl rfl (Nat.le_of_ble_eq_true rfl) ⟨by decide, by decide⟩ ⟨Nat.zero_le _, Nat.zero_le _⟩ hf (fun r307 σ308 _ hf H locs hw => ?_)
      exact r_vret X hw dX8_open_76 hf
    · refine lv_aload_n hx hb dX8_open_46 rfl (lv_at hl 0 rfl) ?_
      refine lv_iload_n hx hb dX8_open_47 rfl (lv_at hl 1 rfl) ?_
      refine r_cvv (rest := []) [.int (mI x2)] X hw (fun ra σa h => c_X8_markOwnWord l D cy ad bs F x2 σ ra σa  h) sh_14 rfl (by decide) rfl km_X8_markOwnWord kv_X8_markOwnWord lm_X8_58 dX8_open_48 hl.1 rfl rfl (Nat.le_of_ble_eq_true rfl) ⟨by decide, by decide⟩ ⟨Nat.zero_le _, Nat.zero_le _⟩ hf (fun r309 σ310 _ hf H locs hw => ?_)
      refine lv_iinc (v := mI (x2 + 1)) (lv' := [(2, .int (mI (x2 + 1))), (0, .ref (ad 14))]) hx hb dX8_open_51 hl (k := 1) rfl (mI_add _ _) (by decide) rfl (fun ls hl => ?_)
      refine lv_goto (tgt := 38) hx hb dX8_open_54 (by decide) ?_
      exact hk38 (x2 + 1) σ310 _ _ _ hw (lv_sub hl [1, 0] rfl) hf
def g_X8_open_b36 (F : Nat)  (σ : mMem) : mRs := g_X8_open_h38 F F 0 σ
set_option maxRecDepth 100000 in
set_option maxHeartbeats 4000000 in
theorem w_X8_open_b36 {p : Program} {l : Launch} {e : Env} {s : State} {m : MethodId} {args : Array Value} {below : List Frame} {meth : Method} {c : Code} {D : va_G} {cy : Nat → ClassId} {ad : Nat → Nat} {bs : Nat} {F : Nat}  (X : mCx p m c cX8_open 3 s args RX8 meth D cy none)  {r : Int} {σ' : mMem}    {σ : mMem} {H : Heap} {locs : List Loc} {ls : Array Slot} (hw : mWd D cy ad bs true mN σ s.heap H locs) (hl : lv_has ls 3 [(0, .ref (ad 14))]) (hf : g_X8_open_b36 F  σ = some (r, σ')) : mGv p l e 4 s m args below meth c D cy ad bs σ' H locs (F0 m 36 ls []) := by
  obtain ⟨⟨hx, hb, -, -, -⟩, -⟩ := id X
  unfold g_X8_open_b36 at hf
  refine lv_iconst (v := mI 0) hx hb dX8_open_36 rfl ?_
  refine lv_istore_n (lv' := [(2, .int (mI 0)), (0, .ref (ad 14))]) hx hb dX8_open_37 rfl hl (by decide) rfl (fun ls hl => ?_)
  exact w_X8_open_h38 X _ hw (lv_sub hl [1, 0] rfl) hf
def g_X8_open_h9 (F : Nat)  : Nat → Int → Int → mMem → mRs
  | 0, _, _, _ => none
  | n + 1, x1, x2, σ => if mw (σ 1 1) ≤ mw x2 then (g_X8_open_b36 F σ) else (if mw x1 = 0 then (g_X8_open_b36 F σ) else (mob (g_X8_scan F x2 σ) (fun r102 σ103 => (g_X8_open_h9 F n) r102 (x2 + 1) σ103)))
set_option maxRecDepth 100000 in
set_option maxHeartbeats 4000000 in
theorem w_X8_open_h9 {p : Program} {l : Launch} {e : Env} {s : State} {m : MethodId} {args : Array Value} {below : List Frame} {meth : Method} {c : Code} {D : va_G} {cy : Nat → ClassId} {ad : Nat → Nat} {bs : Nat} {F : Nat}  (X : mCx p m c cX8_open 3 s args RX8 meth D cy none)  {r : Int} {σ' : mMem}   (n : Nat) : ∀ {x1 x2 : Int} {σ : mMem} {H : Heap} {locs : List Loc} {ls : Array Slot} (_ : mWd D cy ad bs true mN σ s.heap H locs) (_ : lv_has ls 3 [(0, .ref (ad 14)), (1, .int (mI x1)), (2, .int (mI x2))]) (_ : g_X8_open_h9 F n x1 x2 σ = some (r, σ')), mGv p l e 4 s m args below meth c D cy ad bs σ' H locs (F0 m 9 ls []) := by
  obtain ⟨⟨hx, hb, -, -, -⟩, -⟩ := id X
  induction n with
  | zero =>
    intro x1 x2 σ H locs ls hw hl hf
    unfold g_X8_open_h9 at hf
    cases hf
  | succ n ih =>
    have hk9 : ∀ (x1 x2 : Int) (σ : mMem) (H : Heap) (locs : List Loc) (ls : Array Slot), mWd D cy ad bs true mN σ s.heap H locs → lv_has ls 3 [(0, .ref (ad 14)), (1, .int (mI x1)), (2, .int (mI x2))] → g_X8_open_h9 F n x1 x2 σ = some (r, σ') → mGv p l e 4 s m args below meth c D cy ad bs σ' H locs (F0 m 9 ls []) := fun x1 x2 σ H locs ls hw hl hf => ih hw hl hf
    intro x1 x2 σ H locs ls hw hl hf
    unfold g_X8_open_h9 at hf
    refine lv_iload_n hx hb dX8_open_9 rfl (lv_at hl 2 rfl) ?_
    refine lv_aload_n hx hb dX8_open_10 rfl (lv_at hl 0 rfl) ?_
    refine r_getr 1 X hw sh_14 fd_8_0 rfl rfl lf_X8_26 dX8_open_11 ?_
    refine r_geti X hw sh_1 fd_7_1 rfl lf_X8_52 dX8_open_14 ?_
    refine r_icmp_ge (tgt := 36) X dX8_open_17 (by decide) hf (fun hc hf => ?_) (fun hc hf => ?_)
    · exact w_X8_open_b36 X hw (lv_sub hl [0] rfl) hf
    · refine lv_iload_n hx hb dX8_open_20 rfl (lv_at hl 1 rfl) ?_
      refine r_if_eq (tgt := 36) X dX8_open_21 (by decide) hf (fun hc hf => ?_) (fun hc hf => ?_)
      · exact w_X8_open_b36 X hw (lv_sub hl [0] rfl) hf
      · refine lv_aload_n hx hb dX8_open_24 rfl (lv_at hl 0 rfl) ?_
        refine lv_iload_n hx hb dX8_open_25 rfl (lv_at hl 2 rfl) ?_
        refine r_cvi (rest := []) [.int (mI x2)] X hw (fun ra σa h => c_X8_scan l D cy ad bs F x2 σ ra σa  h) sh_14 rfl (by decide) rfl km_X8_scan kv_X8_scan lm_X8_54 dX8_open_26 hl.1 rfl rfl (Nat.le_of_ble_eq_true rfl) ⟨by decide, by decide⟩ ⟨Nat.zero_le _, Nat.zero_le _⟩ hf (fun r102 σ103 _ hf H locs hw => ?_)
        refine lv_istore_n (lv' := [(1, .int (mI r102)), (0, .ref (ad 14)), (2, .int (mI x2))]) hx hb dX8_open_29 rfl hl (by decide) rfl (fun ls hl => ?_)
        refine lv_iinc (v := mI (x2 + 1)) (lv' := [(2, .int (mI (x2 + 1))), (1, .int (mI r102)), (0, .ref (ad 14))]) hx hb dX8_open_30 hl (k := 2) rfl (mI_add _ _) (by decide) rfl (fun ls hl => ?_)
        refine lv_goto (tgt := 9) hx hb dX8_open_33 (by decide) ?_
        exact hk9 r102 (x2 + 1) σ103 _ _ _ hw (lv_sub hl [2, 1, 0] rfl) hf
def g_X8_open (F : Nat) (σ : mMem) : mRs := mlm (mup σ 14 5 0) (fun σ1 => g_X8_open_h9 F F 1 0 σ1)
set_option maxRecDepth 100000 in
set_option maxHeartbeats 4000000 in
theorem c_X8_open (l : Launch) (D : va_G) (cy : Nat → ClassId) (ad : Nat → Nat) (bs : Nat) (F : Nat)   (σ : mMem) (r : Int) (σ' : mMem)  (hf : g_X8_open F  σ = some (r, σ')) : mCv l D cy ad bs yX8_open cX8_open 3 none 4 [.ref (ad 14)] σ σ' := by
  refine mCv.of (lv := [(0, .ref (ad 14))]) km_X8_open.2.2.2.2.2 (Nat.le_of_ble_eq_true rfl) rfl (fun p e s m args below meth c H locs ls X hw hl => ?_)
  obtain ⟨⟨hx, hb, -, -, -⟩, -⟩ := id X
  unfold g_X8_open at hf
  refine lv_aload_n hx hb dX8_open_0 rfl (lv_at hl 0 rfl) ?_
  refine lv_iconst (v := mI 0) hx hb dX8_open_1 rfl ?_
  refine r_puti X hw sh_14 fd_8_5 fp_8_5 rfl rfl lf_X8_48 dX8_open_2 (fun H locs hw => ?_)
  refine r_mem hf hw (fun σ1 hw hf => ?_)
  refine lv_iconst (v := mI 1) hx hb dX8_open_5 rfl ?_
  refine lv_istore_n (lv' := [(1, .int (mI 1)), (0, .ref (ad 14))]) hx hb dX8_open_6 rfl hl (by decide) rfl (fun ls hl => ?_)
  refine lv_iconst (v := mI 0) hx hb dX8_open_7 rfl ?_
  refine lv_istore_n (lv' := [(2, .int (mI 0)), (1, .int (mI 1)), (0, .ref (ad 14))]) hx hb dX8_open_8 rfl hl (by decide) rfl (fun ls hl => ?_)
  exact w_X8_open_h9 X _ hw (lv_sub hl [2, 1, 0] rfl) hf
def g_X8_refuseMore_b44 (F : Nat)  (σ : mMem) : mRs := some (0, σ)
set_option maxRecDepth 100000 in
set_option maxHeartbeats 4000000 in
theorem w_X8_refuseMore_b44 {p : Program} {l : Launch} {e : Env} {s : State} {m : MethodId} {args : Array Value} {below : List Frame} {meth : Method} {c : Code} {D : va_G} {cy : Nat → ClassId} {ad : Nat → Nat} {bs : Nat} {F : Nat}  (X : mCx p m c cX8_refuseMore 2 s args RX8 meth D cy none)  {r : Int} {σ' : mMem}    {σ : mMem} {H : Heap} {locs : List Loc} {ls : Array Slot} (hw : mWd D cy ad bs true mN σ s.heap H locs) (hl : lv_has ls 2 [(0, .ref (ad 14))]) (hf : g_X8_refuseMore_b44 F  σ = some (r, σ')) : mGv p l e 2 s m args below meth c D cy ad bs σ' H locs (F0 m 44 ls []) := by
  obtain ⟨⟨hx, hb, -, -, -⟩, -⟩ := id X
  unfold g_X8_refuseMore_b44 at hf
  exact r_vret X hw dX8_refuseMore_44 hf
def g_X8_refuseMore (F : Nat) (σ : mMem) : mRs := mlet ((σ 14 6) + 1) (fun y1 => if mw y1 < 0 then (g_X8_refuseMore_b44 F σ) else (if mw (σ 14 5) ≤ mw y1 then (g_X8_refuseMore_b44 F σ) else (if mw 1600 ≤ mw y1 then (g_X8_refuseMore_b44 F σ) else (if 0 ≤ mw y1 ∧ mw y1 < (1600 : Int) then mlm (mup σ 14 8 (σ 17 (mw y1).toNat)) (fun σ2 => mob (g_X8_refuseHere F 6 σ2) (fun r3 σ4 => g_X8_refuseMore_b44 F σ4)) else none))))
set_option maxRecDepth 100000 in
set_option maxHeartbeats 4000000 in
theorem c_X8_refuseMore (l : Launch) (D : va_G) (cy : Nat → ClassId) (ad : Nat → Nat) (bs : Nat) (F : Nat)   (σ : mMem) (r : Int) (σ' : mMem)  (hf : g_X8_refuseMore F  σ = some (r, σ')) : mCv l D cy ad bs yX8_refuseMore cX8_refuseMore 2 none 2 [.ref (ad 14)] σ σ' := by
  refine mCv.of (lv := [(0, .ref (ad 14))]) km_X8_refuseMore.2.2.2.2.2 (Nat.le_of_ble_eq_true rfl) rfl (fun p e s m args below meth c H locs ls X hw hl => ?_)
  obtain ⟨⟨hx, hb, -, -, -⟩, -⟩ := id X
  unfold g_X8_refuseMore at hf
  refine lv_aload_n hx hb dX8_refuseMore_0 rfl (lv_at hl 0 rfl) ?_
  refine r_geti X hw sh_14 fd_8_6 rfl lf_X8_68 dX8_refuseMore_1 ?_
  refine lv_iconst (v := mI 1) hx hb dX8_refuseMore_4 rfl ?_
  refine r_iadd X dX8_refuseMore_5 ?_
  refine r_leti hf (fun y1 hf => ?_)
  refine lv_istore_n (lv' := [(1, .int (mI y1)), (0, .ref (ad 14))]) hx hb dX8_refuseMore_6 rfl hl (by decide) rfl (fun ls hl => ?_)
  refine lv_iload_n hx hb dX8_refuseMore_7 rfl (lv_at hl 0 rfl) ?_
  refine r_if_lt (tgt := 44) X dX8_refuseMore_8 (by decide) hf (fun hc hf => ?_) (fun hc hf => ?_)
  · exact w_X8_refuseMore_b44 X hw (lv_sub hl [1] rfl) hf
  · refine lv_iload_n hx hb dX8_refuseMore_11 rfl (lv_at hl 0 rfl) ?_
    refine lv_aload_n hx hb dX8_refuseMore_12 rfl (lv_at hl 1 rfl) ?_
    refine r_geti X hw sh_14 fd_8_5 rfl lf_X8_48 dX8_refuseMore_13 ?_
    refine r_icmp_ge (tgt := 44) X dX8_refuseMore_16 (by decide) hf (fun hc hf => ?_) (fun hc hf => ?_)
    · exact w_X8_refuseMore_b44 X hw (lv_sub hl [1] rfl) hf
    · refine lv_iload_n hx hb dX8_refuseMore_19 rfl (lv_at hl 0 rfl) ?_
      refine lv_aload_n hx hb dX8_refuseMore_20 rfl (lv_at hl 1 rfl) ?_
      refine r_getr 17 X hw sh_14 fd_8_3 rfl rfl lf_X8_20 dX8_refuseMore_21 ?_
      refine r_ileni (1600 : Int) rfl X hw sh_17 dX8_refuseMore_24 ?_
      refine r_icmp_ge (tgt := 44) X dX8_refuseMore_25 (by decide) hf (fun hc hf => ?_) (fun hc hf => ?_)
      · exact w_X8_refuseMore_b44 X hw (lv_sub hl [1] rfl) hf
      · refine lv_aload_n hx hb dX8_refuseMore_28 rfl (lv_at hl 1 rfl) ?_
        refine lv_aload_n hx hb dX8_refuseMore_29 rfl (lv_at hl 1 rfl) ?_
        refine r_getr 17 X hw sh_14 fd_8_3 rfl rfl lf_X8_20 dX8_refuseMore_30 ?_
        refine lv_iload_n hx hb dX8_refuseMore_33 rfl (lv_at hl 0 rfl) ?_
        refine r_iald (1600 : Int) rfl X hw sh_17 dX8_refuseMore_34 hf (fun hf => ?_)
        refine r_puti X hw sh_14 fd_8_8 fp_8_8 rfl rfl lf_X8_101 dX8_refuseMore_35 (fun H locs hw => ?_)
        refine r_mem hf hw (fun σ2 hw hf => ?_)
        refine lv_aload_n hx hb dX8_refuseMore_38 rfl (lv_at hl 1 rfl) ?_
        refine lv_bipush (v := mI 6) hx hb dX8_refuseMore_39 (by decide) ?_
        refine r_cvv (rest := []) [.int (mI 6)] X hw (fun ra σa h => c_X8_refuseHere l D cy ad bs F 6 σ2 ra σa  h) sh_14 rfl (by decide) rfl km_X8_refuseHere kv_X8_refuseHere lm_X8_110 dX8_refuseMore_41 hl.1 rfl rfl (Nat.le_of_ble_eq_true rfl) ⟨by decide, by decide⟩ ⟨Nat.zero_le _, Nat.zero_le _⟩ hf (fun r3 σ4 _ hf H locs hw => ?_)
        exact w_X8_refuseMore_b44 X hw (lv_sub hl [1] rfl) hf
def g_X6_readInto_b87 (F : Nat) (p1 : Nat)  (x2 : Int) (σ : mMem) : mRs := some (x2, σ)
set_option maxRecDepth 100000 in
set_option maxHeartbeats 4000000 in
theorem w_X6_readInto_b87 {p : Program} {l : Launch} {e : Env} {s : State} {m : MethodId} {args : Array Value} {below : List Frame} {meth : Method} {c : Code} {D : va_G} {cy : Nat → ClassId} {ad : Nat → Nat} {bs : Nat} {F : Nat} {p1 : Nat} (X : mCx p m c cX6_readInto 3 s args RX6 meth D cy (some .int)) (hp1 : mPlan p1) {r : Int} {σ' : mMem}   {x2 : Int} {σ : mMem} {H : Heap} {locs : List Loc} {ls : Array Slot} (hw : mWd D cy ad bs true mN σ s.heap H locs) (hl : lv_has ls 3 [(0, .ref (ad 13)), (1, .ref (ad p1)), (2, .int (mI x2))]) (hf : g_X6_readInto_b87 F p1 x2 σ = some (r, σ')) : mGi p l e 97 s m args below meth c D cy ad bs r σ' H locs (F0 m 87 ls []) := by
  obtain ⟨⟨hx, hb, -, -, -⟩, -⟩ := id X
  unfold g_X6_readInto_b87 at hf
  refine lv_iload_n hx hb dX6_readInto_87 rfl (lv_at hl 2 rfl) ?_
  exact r_iret X hw dX6_readInto_88 hf
def g_X6_readInto_b62 (F : Nat) (p1 : Nat) (k21 : Int → mMem → mRs) (x2 : Int) (σ : mMem) : mRs := mob (g_X8_takeMark F 59 σ) (fun r313 σ314 => if mw 80 ≤ mw x2 then (g_X6_readInto_b87 F p1 x2 σ314) else (if ¬ mw (σ314 14 7) = 0 then (k21 x2 σ314) else (g_X6_readInto_b87 F p1 x2 σ314)))
set_option maxRecDepth 100000 in
set_option maxHeartbeats 4000000 in
theorem w_X6_readInto_b62 {p : Program} {l : Launch} {e : Env} {s : State} {m : MethodId} {args : Array Value} {below : List Frame} {meth : Method} {c : Code} {D : va_G} {cy : Nat → ClassId} {ad : Nat → Nat} {bs : Nat} {F : Nat} {p1 : Nat} (X : mCx p m c cX6_readInto 3 s args RX6 meth D cy (some .int)) (hp1 : mPlan p1) {r : Int} {σ' : mMem} {k21 : Int → mMem → mRs} (hk21 : ∀ (x2 : Int) (σ : mMem) (H : Heap) (locs : List Loc) (ls : Array Slot), mWd D cy ad bs true mN σ s.heap H locs → lv_has ls 3 [(0, .ref (ad 13)), (1, .ref (ad p1)), (2, .int (mI x2))] → k21 x2 σ = some (r, σ') → mGi p l e 97 s m args below meth c D cy ad bs r σ' H locs (F0 m 21 ls [])) {x2 : Int} {σ : mMem} {H : Heap} {locs : List Loc} {ls : Array Slot} (hw : mWd D cy ad bs true mN σ s.heap H locs) (hl : lv_has ls 3 [(0, .ref (ad 13)), (1, .ref (ad p1)), (2, .int (mI x2))]) (hf : g_X6_readInto_b62 F p1 k21 x2 σ = some (r, σ')) : mGi p l e 97 s m args below meth c D cy ad bs r σ' H locs (F0 m 62 ls []) := by
  obtain ⟨⟨hx, hb, -, -, -⟩, -⟩ := id X
  unfold g_X6_readInto_b62 at hf
  refine lv_aload_n hx hb dX6_readInto_62 rfl (lv_at hl 0 rfl) ?_
  refine r_getr 14 X hw sh_13 fd_6_0 rfl rfl lf_X6_14 dX6_readInto_63 ?_
  refine lv_bipush (v := mI 59) hx hb dX6_readInto_66 (by decide) ?_
  refine r_cvv (rest := []) [.int (mI 59)] X hw (fun ra σa h => c_X8_takeMark l D cy ad bs F 59 σ ra σa  h) sh_14 rfl (by decide) rfl km_X8_takeMark kv_X8_takeMark lm_X6_52 dX6_readInto_68 hl.1 rfl rfl (Nat.le_of_ble_eq_true rfl) ⟨by decide, by decide⟩ ⟨Nat.zero_le _, Nat.zero_le _⟩ hf (fun r313 σ314 _ hf H locs hw => ?_)
  refine lv_iload_n hx hb dX6_readInto_71 rfl (lv_at hl 2 rfl) ?_
  refine lv_bipush (v := mI 80) hx hb dX6_readInto_72 (by decide) ?_
  refine r_icmp_ge (tgt := 87) X dX6_readInto_74 (by decide) hf (fun hc hf => ?_) (fun hc hf => ?_)
  · exact w_X6_readInto_b87 X hp1 hw (lv_sub hl [0, 1, 2] rfl) hf
  · refine lv_aload_n hx hb dX6_readInto_77 rfl (lv_at hl 0 rfl) ?_
    refine r_getr 14 X hw sh_13 fd_6_0 rfl rfl lf_X6_14 dX6_readInto_78 ?_
    refine r_geti X hw sh_14 fd_8_7 rfl lf_X6_56 dX6_readInto_81 ?_
    refine r_if_ne (tgt := 21) X dX6_readInto_84 (by decide) hf (fun hc hf => ?_) (fun hc hf => ?_)
    · exact hk21 x2 σ314 _ _ _ hw (lv_sub hl [0, 1, 2] rfl) hf
    · exact w_X6_readInto_b87 X hp1 hw (lv_sub hl [0, 1, 2] rfl) hf
def g_X6_readInto_b31 (F : Nat) (p1 : Nat) (k21 : Int → mMem → mRs) (x2 t0 : Int) (σ : mMem) : mRs := mob (g_X6_readStatement F t0 σ) (fun r207 σ208 => if ¬ mw (x2 + 1) = mw 80 then (g_X6_readInto_b62 F p1 k21 (x2 + 1) σ208) else (mob (g_X8_isMark F 59 σ208) (fun r209 σ210 => if mw r209 = 0 then (g_X6_readInto_b62 F p1 k21 (x2 + 1) σ210) else (mob (g_X8_refuseMore F σ210) (fun r211 σ212 => g_X6_readInto_b62 F p1 k21 (x2 + 1) σ212)))))
set_option maxRecDepth 100000 in
set_option maxHeartbeats 4000000 in
theorem w_X6_readInto_b31 {p : Program} {l : Launch} {e : Env} {s : State} {m : MethodId} {args : Array Value} {below : List Frame} {meth : Method} {c : Code} {D : va_G} {cy : Nat → ClassId} {ad : Nat → Nat} {bs : Nat} {F : Nat} {p1 : Nat} (X : mCx p m c cX6_readInto 3 s args RX6 meth D cy (some .int)) (hp1 : mPlan p1) {r : Int} {σ' : mMem} {k21 : Int → mMem → mRs} (hk21 : ∀ (x2 : Int) (σ : mMem) (H : Heap) (locs : List Loc) (ls : Array Slot), mWd D cy ad bs true mN σ s.heap H locs → lv_has ls 3 [(0, .ref (ad 13)), (1, .ref (ad p1)), (2, .int (mI x2))] → k21 x2 σ = some (r, σ') → mGi p l e 97 s m args below meth c D cy ad bs r σ' H locs (F0 m 21 ls [])) {x2 t0 : Int} {σ : mMem} {H : Heap} {locs : List Loc} {ls : Array Slot} (hw : mWd D cy ad bs true mN σ s.heap H locs) (hl : lv_has ls 3 [(0, .ref (ad 13)), (1, .ref (ad p1)), (2, .int (mI x2))]) (hf : g_X6_readInto_b31 F p1 k21 x2 t0 σ = some (r, σ')) : mGi p l e 97 s m args below meth c D cy ad bs r σ' H locs (F0 m 31 ls [.int (mI t0), .ref (ad 13)]) := by
  obtain ⟨⟨hx, hb, -, -, -⟩, -⟩ := id X
  unfold g_X6_readInto_b31 at hf
  refine r_cvv (rest := []) [.int (mI t0)] X hw (fun ra σa h => c_X6_readStatement l D cy ad bs F t0 σ ra σa  h) sh_13 rfl (by decide) rfl km_X6_readStatement kv_X6_readStatement lm_X6_41 dX6_readInto_31 hl.1 rfl rfl (Nat.le_of_ble_eq_true rfl) ⟨by decide, by decide⟩ ⟨Nat.zero_le _, Nat.zero_le _⟩ hf (fun r207 σ208 _ hf H locs hw => ?_)
  refine lv_iinc (v := mI (x2 + 1)) (lv' := [(2, .int (mI (x2 + 1))), (0, .ref (ad 13)), (1, .ref (ad p1))]) hx hb dX6_readInto_34 hl (k := 2) rfl (mI_add _ _) (by decide) rfl (fun ls hl => ?_)
  refine lv_iload_n hx hb dX6_readInto_37 rfl (lv_at hl 0 rfl) ?_
  refine lv_bipush (v := mI 80) hx hb dX6_readInto_38 (by decide) ?_
  refine r_icmp_ne (tgt := 62) X dX6_readInto_40 (by decide) hf (fun hc hf => ?_) (fun hc hf => ?_)
  · exact w_X6_readInto_b62 X hp1 hk21 hw (lv_sub hl [1, 2, 0] rfl) hf
  · refine lv_aload_n hx hb dX6_readInto_43 rfl (lv_at hl 1 rfl) ?_
    refine r_getr 14 X hw sh_13 fd_6_0 rfl rfl lf_X6_14 dX6_readInto_44 ?_
    refine lv_bipush (v := mI 59) hx hb dX6_readInto_47 (by decide) ?_
    refine r_cvi (rest := []) [.int (mI 59)] X hw (fun ra σa h => c_X8_isMark l D cy ad bs F 59 σ208 ra σa  h) sh_14 rfl (by decide) rfl km_X8_isMark kv_X8_isMark lm_X6_45 dX6_readInto_49 hl.1 rfl rfl (Nat.le_of_ble_eq_true rfl) ⟨by decide, by decide⟩ ⟨Nat.zero_le _, Nat.zero_le _⟩ hf (fun r209 σ210 _ hf H locs hw => ?_)
    refine r_if_eq (tgt := 62) X dX6_readInto_52 (by decide) hf (fun hc hf => ?_) (fun hc hf => ?_)
    · exact w_X6_readInto_b62 X hp1 hk21 hw (lv_sub hl [1, 2, 0] rfl) hf
    · refine lv_aload_n hx hb dX6_readInto_55 rfl (lv_at hl 1 rfl) ?_
      refine r_getr 14 X hw sh_13 fd_6_0 rfl rfl lf_X6_14 dX6_readInto_56 ?_
      refine r_cvv (rest := []) [] X hw (fun ra σa h => c_X8_refuseMore l D cy ad bs F σ210 ra σa  h) sh_14 rfl (by decide) rfl km_X8_refuseMore kv_X8_refuseMore lm_X6_49 dX6_readInto_59 hl.1 rfl rfl (Nat.le_of_ble_eq_true rfl) ⟨by decide, by decide⟩ ⟨Nat.zero_le _, Nat.zero_le _⟩ hf (fun r211 σ212 _ hf H locs hw => ?_)
      exact w_X6_readInto_b62 X hp1 hk21 hw (lv_sub hl [1, 2, 0] rfl) hf
def g_X6_readInto_h21 (F : Nat) (p1 : Nat)  : Nat → Int → mMem → mRs
  | 0, _, _ => none
  | n + 1, x2, σ => if ¬ mw x2 = 0 then (g_X6_readInto_b31 F p1 (g_X6_readInto_h21 F p1 n) x2 0 σ) else (g_X6_readInto_b31 F p1 (g_X6_readInto_h21 F p1 n) x2 1 σ)
set_option maxRecDepth 100000 in
set_option maxHeartbeats 4000000 in
theorem w_X6_readInto_h21 {p : Program} {l : Launch} {e : Env} {s : State} {m : MethodId} {args : Array Value} {below : List Frame} {meth : Method} {c : Code} {D : va_G} {cy : Nat → ClassId} {ad : Nat → Nat} {bs : Nat} {F : Nat} {p1 : Nat} (X : mCx p m c cX6_readInto 3 s args RX6 meth D cy (some .int)) (hp1 : mPlan p1) {r : Int} {σ' : mMem}   (n : Nat) : ∀ {x2 : Int} {σ : mMem} {H : Heap} {locs : List Loc} {ls : Array Slot} (_ : mWd D cy ad bs true mN σ s.heap H locs) (_ : lv_has ls 3 [(0, .ref (ad 13)), (1, .ref (ad p1)), (2, .int (mI x2))]) (_ : g_X6_readInto_h21 F p1 n x2 σ = some (r, σ')), mGi p l e 97 s m args below meth c D cy ad bs r σ' H locs (F0 m 21 ls []) := by
  obtain ⟨⟨hx, hb, -, -, -⟩, -⟩ := id X
  induction n with
  | zero =>
    intro x2 σ H locs ls hw hl hf
    unfold g_X6_readInto_h21 at hf
    cases hf
  | succ n ih =>
    have hk21 : ∀ (x2 : Int) (σ : mMem) (H : Heap) (locs : List Loc) (ls : Array Slot), mWd D cy ad bs true mN σ s.heap H locs → lv_has ls 3 [(0, .ref (ad 13)), (1, .ref (ad p1)), (2, .int (mI x2))] → g_X6_readInto_h21 F p1 n x2 σ = some (r, σ') → mGi p l e 97 s m args below meth c D cy ad bs r σ' H locs (F0 m 21 ls []) := fun x2 σ H locs ls hw hl hf => ih hw hl hf
    intro x2 σ H locs ls hw hl hf
    unfold g_X6_readInto_h21 at hf
    refine lv_aload_n hx hb dX6_readInto_21 rfl (lv_at hl 0 rfl) ?_
    refine lv_iload_n hx hb dX6_readInto_22 rfl (lv_at hl 2 rfl) ?_
    refine r_if_ne (tgt := 30) X dX6_readInto_23 (by decide) hf (fun hc hf => ?_) (fun hc hf => ?_)
    · refine lv_iconst (v := mI 0) hx hb dX6_readInto_30 rfl ?_
      exact w_X6_readInto_b31 X hp1 hk21 hw (lv_sub hl [0, 1, 2] rfl) hf
    · refine lv_iconst (v := mI 1) hx hb dX6_readInto_26 rfl ?_
      refine lv_goto (tgt := 31) hx hb dX6_readInto_27 (by decide) ?_
      exact w_X6_readInto_b31 X hp1 hk21 hw (lv_sub hl [0, 1, 2] rfl) hf
def g_X6_readInto (F : Nat) (p1 : Nat) (σ : mMem) : mRs := mlm (mup σ 13 2 ((p1 : Nat) : Int)) (fun σ1 => if σ1 13 2 = 3 ∨ σ1 13 2 = 8 then mob (g_X5_clear F (σ1 13 2).toNat σ1) (fun r3 σ4 => mob (g_X8_open F σ4) (fun r5 σ6 => g_X6_readInto_h21 F p1 F 0 σ6)) else none)
set_option maxRecDepth 100000 in
set_option maxHeartbeats 4000000 in
theorem c_X6_readInto (l : Launch) (D : va_G) (cy : Nat → ClassId) (ad : Nat → Nat) (bs : Nat) (F : Nat) (p1 : Nat)  (σ : mMem) (r : Int) (σ' : mMem) (hp1 : mPlan p1) (hf : g_X6_readInto F p1 σ = some (r, σ')) : mCi l D cy ad bs yX6_readInto cX6_readInto 3 (some .int) 97 [.ref (ad 13), .ref (ad p1)] σ r σ' := by
  refine mCi.of (lv := [(0, .ref (ad 13)), (1, .ref (ad p1))]) km_X6_readInto.2.2.2.2.2 (Nat.le_of_ble_eq_true rfl) rfl (fun p e s m args below meth c H locs ls X hw hl => ?_)
  obtain ⟨⟨hx, hb, -, -, -⟩, -⟩ := id X
  unfold g_X6_readInto at hf
  refine lv_aload_n hx hb dX6_readInto_0 rfl (lv_at hl 0 rfl) ?_
  refine lv_aload_n hx hb dX6_readInto_1 rfl (lv_at hl 1 rfl) ?_
  refine r_putd X hw sh_13 fd_6_2 fp_6_2 rfl rfl lf_X6_29 dX6_readInto_2 (fun H locs hw => ?_)
  refine r_mem hf hw (fun σ1 hw hf => ?_)
  refine lv_aload_n hx hb dX6_readInto_5 rfl (lv_at hl 0 rfl) ?_
  refine r_getp X hw sh_13 fd_6_2 rfl lf_X6_29 dX6_readInto_6 hf (fun hg2 hf => ?_)
  refine r_cvv (rest := []) [] X hw (fun ra σa h => c_X5_clear l D cy ad bs F (σ1 13 2).toNat σ1 ra σa (mPlan_z hg2) h) (mPlan_z hg2).1 rfl (by decide) rfl km_X5_clear kv_X5_clear lm_X6_33 dX6_readInto_9 hl.1 rfl rfl (Nat.le_of_ble_eq_true rfl) ⟨by decide, by decide⟩ ⟨Nat.zero_le _, Nat.zero_le _⟩ hf (fun r3 σ4 _ hf H locs hw => ?_)
  refine lv_aload_n hx hb dX6_readInto_12 rfl (lv_at hl 0 rfl) ?_
  refine r_getr 14 X hw sh_13 fd_6_0 rfl rfl lf_X6_14 dX6_readInto_13 ?_
  refine r_cvv (rest := []) [] X hw (fun ra σa h => c_X8_open l D cy ad bs F σ4 ra σa  h) sh_14 rfl (by decide) rfl km_X8_open kv_X8_open lm_X6_38 dX6_readInto_16 hl.1 rfl rfl (Nat.le_of_ble_eq_true rfl) ⟨by decide, by decide⟩ ⟨Nat.zero_le _, Nat.zero_le _⟩ hf (fun r5 σ6 _ hf H locs hw => ?_)
  refine lv_iconst (v := mI 0) hx hb dX6_readInto_19 rfl ?_
  refine lv_istore_n (lv' := [(2, .int (mI 0)), (0, .ref (ad 13)), (1, .ref (ad p1))]) hx hb dX6_readInto_20 rfl hl (by decide) rfl (fun ls hl => ?_)
  exact w_X6_readInto_h21 X hp1 _ hw (lv_sub hl [1, 2, 0] rfl) hf
def g_X7_hasSpaceFor_b17 (F : Nat)  (t0 : Int) (σ : mMem) : mRs := if mw t0 = 0 ∨ mw t0 = 1 then some (t0, σ) else none
set_option maxRecDepth 100000 in
set_option maxHeartbeats 4000000 in
theorem w_X7_hasSpaceFor_b17 {p : Program} {l : Launch} {e : Env} {s : State} {m : MethodId} {args : Array Value} {below : List Frame} {meth : Method} {c : Code} {D : va_G} {cy : Nat → ClassId} {ad : Nat → Nat} {bs : Nat} {F : Nat}  (X : mCx p m c cX7_hasSpaceFor 2 s args RX7 meth D cy (some .boolean))  {r : Int} {σ' : mMem}   {t0 : Int} {σ : mMem} {H : Heap} {locs : List Loc} {ls : Array Slot} (hw : mWd D cy ad bs true mN σ s.heap H locs) (hl : lv_has ls 2 [(0, .ref (ad 1))]) (hf : g_X7_hasSpaceFor_b17 F t0 σ = some (r, σ')) : mGi p l e 1 s m args below meth c D cy ad bs r σ' H locs (F0 m 17 ls [.int (mI t0)]) := by
  obtain ⟨⟨hx, hb, -, -, -⟩, -⟩ := id X
  unfold g_X7_hasSpaceFor_b17 at hf
  exact r_zret X hw dX7_hasSpaceFor_17 hf
def g_X7_hasSpaceFor (F : Nat) (x1 : Int) (σ : mMem) : mRs := if mw 1600 < mw ((σ 1 1) + x1) then (g_X7_hasSpaceFor_b17 F 0 σ) else (g_X7_hasSpaceFor_b17 F 1 σ)
set_option maxRecDepth 100000 in
set_option maxHeartbeats 4000000 in
theorem c_X7_hasSpaceFor (l : Launch) (D : va_G) (cy : Nat → ClassId) (ad : Nat → Nat) (bs : Nat) (F : Nat)  (x1 : Int) (σ : mMem) (r : Int) (σ' : mMem)  (hf : g_X7_hasSpaceFor F x1 σ = some (r, σ')) : mCi l D cy ad bs yX7_hasSpaceFor cX7_hasSpaceFor 2 (some .boolean) 1 [.ref (ad 1), .int (mI x1)] σ r σ' := by
  refine mCi.of (lv := [(0, .ref (ad 1)), (1, .int (mI x1))]) km_X7_hasSpaceFor.2.2.2.2.2 (Nat.le_of_ble_eq_true rfl) rfl (fun p e s m args below meth c H locs ls X hw hl => ?_)
  obtain ⟨⟨hx, hb, -, -, -⟩, -⟩ := id X
  unfold g_X7_hasSpaceFor at hf
  refine lv_aload_n hx hb dX7_hasSpaceFor_0 rfl (lv_at hl 0 rfl) ?_
  refine r_geti X hw sh_1 fd_7_1 rfl lf_X7_15 dX7_hasSpaceFor_1 ?_
  refine lv_iload_n hx hb dX7_hasSpaceFor_4 rfl (lv_at hl 1 rfl) ?_
  refine r_iadd X dX7_hasSpaceFor_5 ?_
  refine lv_sipush (v := mI 1600) hx hb dX7_hasSpaceFor_6 (by decide) ?_
  refine r_icmp_gt (tgt := 16) X dX7_hasSpaceFor_9 (by decide) hf (fun hc hf => ?_) (fun hc hf => ?_)
  · refine lv_iconst (v := mI 0) hx hb dX7_hasSpaceFor_16 rfl ?_
    exact w_X7_hasSpaceFor_b17 X hw (lv_sub hl [0] rfl) hf
  · refine lv_iconst (v := mI 1) hx hb dX7_hasSpaceFor_12 rfl ?_
    refine lv_goto (tgt := 17) hx hb dX7_hasSpaceFor_13 (by decide) ?_
    exact w_X7_hasSpaceFor_b17 X hw (lv_sub hl [0] rfl) hf
def g_X7_add_b50 (F : Nat) (k3 : Int → Int → mMem → mRs) (x1 x2 : Int) (σ : mMem) : mRs := k3 x1 (x2 + (-8)) σ
set_option maxRecDepth 100000 in
set_option maxHeartbeats 4000000 in
theorem w_X7_add_b50 {p : Program} {l : Launch} {e : Env} {s : State} {m : MethodId} {args : Array Value} {below : List Frame} {meth : Method} {c : Code} {D : va_G} {cy : Nat → ClassId} {ad : Nat → Nat} {bs : Nat} {F : Nat}  (X : mCx p m c cX7_add 3 s args RX7 meth D cy none)  {r : Int} {σ' : mMem} {k3 : Int → Int → mMem → mRs} (hk3 : ∀ (x1 x2 : Int) (σ : mMem) (H : Heap) (locs : List Loc) (ls : Array Slot), mWd D cy ad bs true mN σ s.heap H locs → lv_has ls 3 [(0, .ref (ad 1)), (1, .int (mI x1)), (2, .int (mI x2))] → k3 x1 x2 σ = some (r, σ') → mGv p l e 1 s m args below meth c D cy ad bs σ' H locs (F0 m 3 ls [])) {x1 x2 : Int} {σ : mMem} {H : Heap} {locs : List Loc} {ls : Array Slot} (hw : mWd D cy ad bs true mN σ s.heap H locs) (hl : lv_has ls 3 [(0, .ref (ad 1)), (1, .int (mI x1)), (2, .int (mI x2))]) (hf : g_X7_add_b50 F k3 x1 x2 σ = some (r, σ')) : mGv p l e 1 s m args below meth c D cy ad bs σ' H locs (F0 m 50 ls []) := by
  obtain ⟨⟨hx, hb, -, -, -⟩, -⟩ := id X
  unfold g_X7_add_b50 at hf
  refine lv_iinc (v := mI (x2 + (-8))) (lv' := [(2, .int (mI (x2 + (-8)))), (0, .ref (ad 1)), (1, .int (mI x1))]) hx hb dX7_add_50 hl (k := 2) rfl (mI_add _ _) (by decide) rfl (fun ls hl => ?_)
  refine lv_goto (tgt := 3) hx hb dX7_add_53 (by decide) ?_
  exact hk3 x1 (x2 + (-8)) σ _ _ _ hw (lv_sub hl [1, 2, 0] rfl) hf
def g_X7_add_h3 (F : Nat)  : Nat → Int → Int → mMem → mRs
  | 0, _, _, _ => none
  | n + 1, x1, x2, σ => if mw x2 < 0 then (some (0, σ)) else (if mw (σ 1 1) < 0 then (g_X7_add_b50 F (g_X7_add_h3 F n) x1 x2 σ) else (if mw 1600 ≤ mw (σ 1 1) then (g_X7_add_b50 F (g_X7_add_h3 F n) x1 x2 σ) else (if 0 ≤ mw (σ 1 1) ∧ mw (σ 1 1) < (1600 : Int) then mlm (mup σ 2 (mw (σ 1 1)).toNat (mand (mshr x1 x2) 255)) (fun σ101 => mlm (mup σ101 1 1 ((σ101 1 1) + 1)) (fun σ102 => g_X7_add_b50 F (g_X7_add_h3 F n) x1 x2 σ102)) else none)))
set_option maxRecDepth 100000 in
set_option maxHeartbeats 4000000 in
theorem w_X7_add_h3 {p : Program} {l : Launch} {e : Env} {s : State} {m : MethodId} {args : Array Value} {below : List Frame} {meth : Method} {c : Code} {D : va_G} {cy : Nat → ClassId} {ad : Nat → Nat} {bs : Nat} {F : Nat}  (X : mCx p m c cX7_add 3 s args RX7 meth D cy none)  {r : Int} {σ' : mMem}   (n : Nat) : ∀ {x1 x2 : Int} {σ : mMem} {H : Heap} {locs : List Loc} {ls : Array Slot} (_ : mWd D cy ad bs true mN σ s.heap H locs) (_ : lv_has ls 3 [(0, .ref (ad 1)), (1, .int (mI x1)), (2, .int (mI x2))]) (_ : g_X7_add_h3 F n x1 x2 σ = some (r, σ')), mGv p l e 1 s m args below meth c D cy ad bs σ' H locs (F0 m 3 ls []) := by
  obtain ⟨⟨hx, hb, -, -, -⟩, -⟩ := id X
  induction n with
  | zero =>
    intro x1 x2 σ H locs ls hw hl hf
    unfold g_X7_add_h3 at hf
    cases hf
  | succ n ih =>
    have hk3 : ∀ (x1 x2 : Int) (σ : mMem) (H : Heap) (locs : List Loc) (ls : Array Slot), mWd D cy ad bs true mN σ s.heap H locs → lv_has ls 3 [(0, .ref (ad 1)), (1, .int (mI x1)), (2, .int (mI x2))] → g_X7_add_h3 F n x1 x2 σ = some (r, σ') → mGv p l e 1 s m args below meth c D cy ad bs σ' H locs (F0 m 3 ls []) := fun x1 x2 σ H locs ls hw hl hf => ih hw hl hf
    intro x1 x2 σ H locs ls hw hl hf
    unfold g_X7_add_h3 at hf
    refine lv_iload_n hx hb dX7_add_3 rfl (lv_at hl 2 rfl) ?_
    refine r_if_lt (tgt := 56) X dX7_add_4 (by decide) hf (fun hc hf => ?_) (fun hc hf => ?_)
    · exact r_vret X hw dX7_add_56 hf
    · refine lv_aload_n hx hb dX7_add_7 rfl (lv_at hl 0 rfl) ?_
      refine r_geti X hw sh_1 fd_7_1 rfl lf_X7_15 dX7_add_8 ?_
      refine r_if_lt (tgt := 50) X dX7_add_11 (by decide) hf (fun hc hf => ?_) (fun hc hf => ?_)
      · exact w_X7_add_b50 X hk3 hw (lv_sub hl [0, 1, 2] rfl) hf
      · refine lv_aload_n hx hb dX7_add_14 rfl (lv_at hl 0 rfl) ?_
        refine r_geti X hw sh_1 fd_7_1 rfl lf_X7_15 dX7_add_15 ?_
        refine lv_sipush (v := mI 1600) hx hb dX7_add_18 (by decide) ?_
        refine r_icmp_ge (tgt := 50) X dX7_add_21 (by decide) hf (fun hc hf => ?_) (fun hc hf => ?_)
        · exact w_X7_add_b50 X hk3 hw (lv_sub hl [0, 1, 2] rfl) hf
        · refine lv_aload_n hx hb dX7_add_24 rfl (lv_at hl 0 rfl) ?_
          refine r_getr 2 X hw sh_1 fd_7_0 rfl rfl lf_X7_11 dX7_add_25 ?_
          refine lv_aload_n hx hb dX7_add_28 rfl (lv_at hl 0 rfl) ?_
          refine r_geti X hw sh_1 fd_7_1 rfl lf_X7_15 dX7_add_29 ?_
          refine lv_iload_n hx hb dX7_add_32 rfl (lv_at hl 1 rfl) ?_
          refine lv_iload_n hx hb dX7_add_33 rfl (lv_at hl 2 rfl) ?_
          refine r_ishr X dX7_add_34 ?_
          refine lv_sipush (v := mI 255) hx hb dX7_add_35 (by decide) ?_
          refine r_iand X dX7_add_38 ?_
          refine r_iast (1600 : Int) rfl X hw sh_2 dX7_add_39 hf (fun hf H locs hw => ?_)
          refine r_mem hf hw (fun σ101 hw hf => ?_)
          refine lv_aload_n hx hb dX7_add_40 rfl (lv_at hl 0 rfl) ?_
          refine lv_dup hx hb dX7_add_41 rfl ?_
          refine r_geti X hw sh_1 fd_7_1 rfl lf_X7_15 dX7_add_42 ?_
          refine lv_iconst (v := mI 1) hx hb dX7_add_45 rfl ?_
          refine r_iadd X dX7_add_46 ?_
          refine r_puti X hw sh_1 fd_7_1 fp_7_1 rfl rfl lf_X7_15 dX7_add_47 (fun H locs hw => ?_)
          refine r_mem hf hw (fun σ102 hw hf => ?_)
          exact w_X7_add_b50 X hk3 hw (lv_sub hl [0, 1, 2] rfl) hf
def g_X7_add (F : Nat) (x1 : Int) (σ : mMem) : mRs := g_X7_add_h3 F F x1 24 σ
set_option maxRecDepth 100000 in
set_option maxHeartbeats 4000000 in
theorem c_X7_add (l : Launch) (D : va_G) (cy : Nat → ClassId) (ad : Nat → Nat) (bs : Nat) (F : Nat)  (x1 : Int) (σ : mMem) (r : Int) (σ' : mMem)  (hf : g_X7_add F x1 σ = some (r, σ')) : mCv l D cy ad bs yX7_add cX7_add 3 none 1 [.ref (ad 1), .int (mI x1)] σ σ' := by
  refine mCv.of (lv := [(0, .ref (ad 1)), (1, .int (mI x1))]) km_X7_add.2.2.2.2.2 (Nat.le_of_ble_eq_true rfl) rfl (fun p e s m args below meth c H locs ls X hw hl => ?_)
  obtain ⟨⟨hx, hb, -, -, -⟩, -⟩ := id X
  unfold g_X7_add at hf
  refine lv_bipush (v := mI 24) hx hb dX7_add_0 (by decide) ?_
  refine lv_istore_n (lv' := [(2, .int (mI 24)), (0, .ref (ad 1)), (1, .int (mI x1))]) hx hb dX7_add_2 rfl hl (by decide) rfl (fun ls hl => ?_)
  exact w_X7_add_h3 X _ hw (lv_sub hl [1, 2, 0] rfl) hf
def g_X9_forget (F : Nat) (σ : mMem) : mRs := mlm (mup σ 35 3 0) (fun σ1 => some (0, σ1))
set_option maxRecDepth 100000 in
set_option maxHeartbeats 4000000 in
theorem c_X9_forget (l : Launch) (D : va_G) (cy : Nat → ClassId) (ad : Nat → Nat) (bs : Nat) (F : Nat)   (σ : mMem) (r : Int) (σ' : mMem)  (hf : g_X9_forget F  σ = some (r, σ')) : mCv l D cy ad bs yX9_forget cX9_forget 1 none 1 [.ref (ad 35)] σ σ' := by
  refine mCv.of (lv := [(0, .ref (ad 35))]) km_X9_forget.2.2.2.2.2 (Nat.le_of_ble_eq_true rfl) rfl (fun p e s m args below meth c H locs ls X hw hl => ?_)
  obtain ⟨⟨hx, hb, -, -, -⟩, -⟩ := id X
  unfold g_X9_forget at hf
  refine lv_aload_n hx hb dX9_forget_0 rfl (lv_at hl 0 rfl) ?_
  refine lv_iconst (v := mI 0) hx hb dX9_forget_1 rfl ?_
  refine r_puti X hw sh_35 fd_9_3 fp_9_3 rfl rfl lf_X9_29 dX9_forget_2 (fun H locs hw => ?_)
  refine r_mem hf hw (fun σ1 hw hf => ?_)
  exact r_vret X hw dX9_forget_5 hf
def g_X9_takeRows_b28 (F : Nat) (p2 : Nat)  (σ : mMem) : mRs := if mw 0 = 0 ∨ mw 0 = 1 then some (0, σ) else none
set_option maxRecDepth 100000 in
set_option maxHeartbeats 4000000 in
theorem w_X9_takeRows_b28 {p : Program} {l : Launch} {e : Env} {s : State} {m : MethodId} {args : Array Value} {below : List Frame} {meth : Method} {c : Code} {D : va_G} {cy : Nat → ClassId} {ad : Nat → Nat} {bs : Nat} {F : Nat} {p2 : Nat} (X : mCx p m c cX9_takeRows 5 s args RX9 meth D cy (some .boolean)) (hp2 : mPlan p2) {r : Int} {σ' : mMem}    {σ : mMem} {H : Heap} {locs : List Loc} {ls : Array Slot} (hw : mWd D cy ad bs true mN σ s.heap H locs) (hl : lv_has ls 5 [(0, .ref (ad 35)), (1, .ref (ad 1)), (2, .ref (ad p2))]) (hf : g_X9_takeRows_b28 F p2  σ = some (r, σ')) : mGi p l e 2 s m args below meth c D cy ad bs r σ' H locs (F0 m 28 ls []) := by
  obtain ⟨⟨hx, hb, -, -, -⟩, -⟩ := id X
  unfold g_X9_takeRows_b28 at hf
  refine lv_iconst (v := mI 0) hx hb dX9_takeRows_28 rfl ?_
  exact r_zret X hw dX9_takeRows_29 hf
def g_X9_takeRows_b127 (F : Nat) (p2 : Nat)  (x3 : Int) (σ : mMem) : mRs := mlm (mup σ 35 3 x3) (fun σ513 => if mw 1 = 0 ∨ mw 1 = 1 then some (1, σ513) else none)
set_option maxRecDepth 100000 in
set_option maxHeartbeats 4000000 in
theorem w_X9_takeRows_b127 {p : Program} {l : Launch} {e : Env} {s : State} {m : MethodId} {args : Array Value} {below : List Frame} {meth : Method} {c : Code} {D : va_G} {cy : Nat → ClassId} {ad : Nat → Nat} {bs : Nat} {F : Nat} {p2 : Nat} (X : mCx p m c cX9_takeRows 5 s args RX9 meth D cy (some .boolean)) (hp2 : mPlan p2) {r : Int} {σ' : mMem}   {x3 : Int} {σ : mMem} {H : Heap} {locs : List Loc} {ls : Array Slot} (hw : mWd D cy ad bs true mN σ s.heap H locs) (hl : lv_has ls 5 [(0, .ref (ad 35)), (1, .ref (ad 1)), (2, .ref (ad p2)), (3, .int (mI x3))]) (hf : g_X9_takeRows_b127 F p2 x3 σ = some (r, σ')) : mGi p l e 2 s m args below meth c D cy ad bs r σ' H locs (F0 m 127 ls []) := by
  obtain ⟨⟨hx, hb, -, -, -⟩, -⟩ := id X
  unfold g_X9_takeRows_b127 at hf
  refine lv_aload_n hx hb dX9_takeRows_127 rfl (lv_at hl 0 rfl) ?_
  refine lv_iload_n hx hb dX9_takeRows_128 rfl (lv_at hl 3 rfl) ?_
  refine r_puti X hw sh_35 fd_9_3 fp_9_3 rfl rfl lf_X9_29 dX9_takeRows_129 (fun H locs hw => ?_)
  refine r_mem hf hw (fun σ513 hw hf => ?_)
  refine lv_iconst (v := mI 1) hx hb dX9_takeRows_132 rfl ?_
  exact r_zret X hw dX9_takeRows_133 hf
def g_X9_takeRows_h90 (F : Nat) (p2 : Nat)  : Nat → Int → Int → mMem → mRs
  | 0, _, _, _ => none
  | n + 1, x3, x4, σ => if mw (3 * x3) ≤ mw x4 then (g_X9_takeRows_b127 F p2 x3 σ) else (if mw 48 ≤ mw x4 then (g_X9_takeRows_b127 F p2 x3 σ) else (mob (g_X7_at F x4 σ) (fun r310 σ311 => if 0 ≤ mw x4 ∧ mw x4 < (48 : Int) then mlm (mup σ311 36 (mw x4).toNat r310) (fun σ312 => (g_X9_takeRows_h90 F p2 n) x3 (x4 + 1) σ312) else none)))
set_option maxRecDepth 100000 in
set_option maxHeartbeats 4000000 in
theorem w_X9_takeRows_h90 {p : Program} {l : Launch} {e : Env} {s : State} {m : MethodId} {args : Array Value} {below : List Frame} {meth : Method} {c : Code} {D : va_G} {cy : Nat → ClassId} {ad : Nat → Nat} {bs : Nat} {F : Nat} {p2 : Nat} (X : mCx p m c cX9_takeRows 5 s args RX9 meth D cy (some .boolean)) (hp2 : mPlan p2) {r : Int} {σ' : mMem}   (n : Nat) : ∀ {x3 x4 : Int} {σ : mMem} {H : Heap} {locs : List Loc} {ls : Array Slot} (_ : mWd D cy ad bs true mN σ s.heap H locs) (_ : lv_has ls 5 [(0, .ref (ad 35)), (1, .ref (ad 1)), (2, .ref (ad p2)), (3, .int (mI x3)), (4, .int (mI x4))]) (_ : g_X9_takeRows_h90 F p2 n x3 x4 σ = some (r, σ')), mGi p l e 2 s m args below meth c D cy ad bs r σ' H locs (F0 m 90 ls []) := by
  obtain ⟨⟨hx, hb, -, -, -⟩, -⟩ := id X
  induction n with
  | zero =>
    intro x3 x4 σ H locs ls hw hl hf
    unfold g_X9_takeRows_h90 at hf
    cases hf
  | succ n ih =>
    have hk90 : ∀ (x3 x4 : Int) (σ : mMem) (H : Heap) (locs : List Loc) (ls : Array Slot), mWd D cy ad bs true mN σ s.heap H locs → lv_has ls 5 [(0, .ref (ad 35)), (1, .ref (ad 1)), (2, .ref (ad p2)), (3, .int (mI x3)), (4, .int (mI x4))] → g_X9_takeRows_h90 F p2 n x3 x4 σ = some (r, σ') → mGi p l e 2 s m args below meth c D cy ad bs r σ' H locs (F0 m 90 ls []) := fun x3 x4 σ H locs ls hw hl hf => ih hw hl hf
    intro x3 x4 σ H locs ls hw hl hf
    unfold g_X9_takeRows_h90 at hf
    refine lv_iload hx hb dX9_takeRows_90 (lv_at hl 4 rfl) ?_
    refine lv_iconst (v := mI 3) hx hb dX9_takeRows_92 rfl ?_
    refine lv_iload_n hx hb dX9_takeRows_93 rfl (lv_at hl 3 rfl) ?_
    refine r_imul X dX9_takeRows_94 ?_
    refine r_icmp_ge (tgt := 127) X dX9_takeRows_95 (by decide) hf (fun hc hf => ?_) (fun hc hf => ?_)
    · exact w_X9_takeRows_b127 X hp2 hw (lv_sub hl [0, 1, 2, 3] rfl) hf
    · refine lv_iload hx hb dX9_takeRows_98 (lv_at hl 4 rfl) ?_
      refine lv_aload_n hx hb dX9_takeRows_100 rfl (lv_at hl 0 rfl) ?_
      refine r_getr 36 X hw sh_35 fd_9_1 rfl rfl lf_X9_13 dX9_takeRows_101 ?_
      refine r_ileni (48 : Int) rfl X hw sh_36 dX9_takeRows_104 ?_
      refine r_icmp_ge (tgt := 127) X dX9_takeRows_105 (by decide) hf (fun hc hf => ?_) (fun hc hf => ?_)
      · exact w_X9_takeRows_b127 X hp2 hw (lv_sub hl [0, 1, 2, 3] rfl) hf
      · refine lv_aload_n hx hb dX9_takeRows_108 rfl (lv_at hl 0 rfl) ?_
        refine r_getr 36 X hw sh_35 fd_9_1 rfl rfl lf_X9_13 dX9_takeRows_109 ?_
        refine lv_iload hx hb dX9_takeRows_112 (lv_at hl 4 rfl) ?_
        refine lv_aload_n hx hb dX9_takeRows_114 rfl (lv_at hl 1 rfl) ?_
        refine lv_iload hx hb dX9_takeRows_115 (lv_at hl 4 rfl) ?_
        refine r_cvi (rest := [.int (mI x4), .ref (ad 36)]) [.int (mI x4)] X hw (fun ra σa h => c_X7_at l D cy ad bs F x4 σ ra σa  h) sh_1 rfl (by decide) rfl km_X7_at kv_X7_at lm_X9_38 dX9_takeRows_117 hl.1 rfl rfl (Nat.le_of_ble_eq_true rfl) ⟨by decide, by decide⟩ ⟨Nat.zero_le _, Nat.zero_le _⟩ hf (fun r310 σ311 _ hf H locs hw => ?_)
        refine r_iast (48 : Int) rfl X hw sh_36 dX9_takeRows_120 hf (fun hf H locs hw => ?_)
        refine r_mem hf hw (fun σ312 hw hf => ?_)
        refine lv_iinc (v := mI (x4 + 1)) (lv' := [(4, .int (mI (x4 + 1))), (0, .ref (ad 35)), (1, .ref (ad 1)), (2, .ref (ad p2)), (3, .int (mI x3))]) hx hb dX9_takeRows_121 hl (k := 4) rfl (mI_add _ _) (by decide) rfl (fun ls hl => ?_)
        refine lv_goto (tgt := 90) hx hb dX9_takeRows_124 (by decide) ?_
        exact hk90 x3 (x4 + 1) σ312 _ _ _ hw (lv_sub hl [1, 2, 3, 4, 0] rfl) hf
def g_X9_takeRows_b79 (F : Nat) (p2 : Nat)  (σ : mMem) : mRs := if mw 0 = 0 ∨ mw 0 = 1 then some (0, σ) else none
set_option maxRecDepth 100000 in
set_option maxHeartbeats 4000000 in
theorem w_X9_takeRows_b79 {p : Program} {l : Launch} {e : Env} {s : State} {m : MethodId} {args : Array Value} {below : List Frame} {meth : Method} {c : Code} {D : va_G} {cy : Nat → ClassId} {ad : Nat → Nat} {bs : Nat} {F : Nat} {p2 : Nat} (X : mCx p m c cX9_takeRows 5 s args RX9 meth D cy (some .boolean)) (hp2 : mPlan p2) {r : Int} {σ' : mMem}    {σ : mMem} {H : Heap} {locs : List Loc} {ls : Array Slot} (hw : mWd D cy ad bs true mN σ s.heap H locs) (hl : lv_has ls 5 [(0, .ref (ad 35)), (1, .ref (ad 1)), (2, .ref (ad p2))]) (hf : g_X9_takeRows_b79 F p2  σ = some (r, σ')) : mGi p l e 2 s m args below meth c D cy ad bs r σ' H locs (F0 m 79 ls []) := by
  obtain ⟨⟨hx, hb, -, -, -⟩, -⟩ := id X
  unfold g_X9_takeRows_b79 at hf
  refine lv_iconst (v := mI 0) hx hb dX9_takeRows_79 rfl ?_
  exact r_zret X hw dX9_takeRows_80 hf
def g_X9_takeRows_h33 (F : Nat) (p2 : Nat)  : Nat → Int → Int → mMem → mRs
  | 0, _, _, _ => none
  | n + 1, x3, x4, σ => if mw x3 ≤ mw x4 then (g_X9_takeRows_h90 F p2 F x3 0 σ) else (mob (g_X7_at F (3 * x4) σ) (fun r202 σ203 => if mw 40 < mw r202 then (g_X9_takeRows_b79 F p2 σ203) else (mob (g_X7_at F ((3 * x4) + 1) σ203) (fun r204 σ205 => mob (g_X7_at F ((3 * x4) + 2) σ205) (fun r206 σ207 => mob (g_X5_hasCell F p2 r204 r206 σ207) (fun r208 σ209 => if ¬ mw r208 = 0 then ((g_X9_takeRows_h33 F p2 n) x3 (x4 + 1) σ209) else (g_X9_takeRows_b79 F p2 σ209)))))))
set_option maxRecDepth 100000 in
set_option maxHeartbeats 4000000 in
theorem w_X9_takeRows_h33 {p : Program} {l : Launch} {e : Env} {s : State} {m : MethodId} {args : Array Value} {below : List Frame} {meth : Method} {c : Code} {D : va_G} {cy : Nat → ClassId} {ad : Nat → Nat} {bs : Nat} {F : Nat} {p2 : Nat} (X : mCx p m c cX9_takeRows 5 s args RX9 meth D cy (some .boolean)) (hp2 : mPlan p2) {r : Int} {σ' : mMem}   (n : Nat) : ∀ {x3 x4 : Int} {σ : mMem} {H : Heap} {locs : List Loc} {ls : Array Slot} (_ : mWd D cy ad bs true mN σ s.heap H locs) (_ : lv_has ls 5 [(0, .ref (ad 35)), (1, .ref (ad 1)), (2, .ref (ad p2)), (3, .int (mI x3)), (4, .int (mI x4))]) (_ : g_X9_takeRows_h33 F p2 n x3 x4 σ = some (r, σ')), mGi p l e 2 s m args below meth c D cy ad bs r σ' H locs (F0 m 33 ls []) := by
  obtain ⟨⟨hx, hb, -, -, -⟩, -⟩ := id X
  induction n with
  | zero =>
    intro x3 x4 σ H locs ls hw hl hf
    unfold g_X9_takeRows_h33 at hf
    cases hf
  | succ n ih =>
    have hk33 : ∀ (x3 x4 : Int) (σ : mMem) (H : Heap) (locs : List Loc) (ls : Array Slot), mWd D cy ad bs true mN σ s.heap H locs → lv_has ls 5 [(0, .ref (ad 35)), (1, .ref (ad 1)), (2, .ref (ad p2)), (3, .int (mI x3)), (4, .int (mI x4))] → g_X9_takeRows_h33 F p2 n x3 x4 σ = some (r, σ') → mGi p l e 2 s m args below meth c D cy ad bs r σ' H locs (F0 m 33 ls []) := fun x3 x4 σ H locs ls hw hl hf => ih hw hl hf
    intro x3 x4 σ H locs ls hw hl hf
    unfold g_X9_takeRows_h33 at hf
    refine lv_iload hx hb dX9_takeRows_33 (lv_at hl 4 rfl) ?_
    refine lv_iload_n hx hb dX9_takeRows_35 rfl (lv_at hl 3 rfl) ?_
    refine r_icmp_ge (tgt := 87) X dX9_takeRows_36 (by decide) hf (fun hc hf => ?_) (fun hc hf => ?_)
    · refine lv_iconst (v := mI 0) hx hb dX9_takeRows_87 rfl ?_
      refine lv_istore (lv' := [(4, .int (mI 0)), (0, .ref (ad 35)), (1, .ref (ad 1)), (2, .ref (ad p2)), (3, .int (mI x3))]) hx hb dX9_takeRows_88 hl (by decide) rfl (fun ls hl => ?_)
      exact w_X9_takeRows_h90 X hp2 _ hw (lv_sub hl [1, 2, 3, 4, 0] rfl) hf
    · refine lv_aload_n hx hb dX9_takeRows_39 rfl (lv_at hl 1 rfl) ?_
      refine lv_iconst (v := mI 3) hx hb dX9_takeRows_40 rfl ?_
      refine lv_iload hx hb dX9_takeRows_41 (lv_at hl 4 rfl) ?_
      refine r_imul X dX9_takeRows_43 ?_
      refine r_cvi (rest := []) [.int (mI (3 * x4))] X hw (fun ra σa h => c_X7_at l D cy ad bs F (3 * x4) σ ra σa  h) sh_1 rfl (by decide) rfl km_X7_at kv_X7_at lm_X9_38 dX9_takeRows_44 hl.1 rfl rfl (Nat.le_of_ble_eq_true rfl) ⟨by decide, by decide⟩ ⟨Nat.zero_le _, Nat.zero_le _⟩ hf (fun r202 σ203 _ hf H locs hw => ?_)
      refine lv_bipush (v := mI 40) hx hb dX9_takeRows_47 (by decide) ?_
      refine r_icmp_gt (tgt := 79) X dX9_takeRows_49 (by decide) hf (fun hc hf => ?_) (fun hc hf => ?_)
      · exact w_X9_takeRows_b79 X hp2 hw (lv_sub hl [0, 1, 2] rfl) hf
      · refine lv_aload_n hx hb dX9_takeRows_52 rfl (lv_at hl 2 rfl) ?_
        refine lv_aload_n hx hb dX9_takeRows_53 rfl (lv_at hl 1 rfl) ?_
        refine lv_iconst (v := mI 3) hx hb dX9_takeRows_54 rfl ?_
        refine lv_iload hx hb dX9_takeRows_55 (lv_at hl 4 rfl) ?_
        refine r_imul X dX9_takeRows_57 ?_
        refine lv_iconst (v := mI 1) hx hb dX9_takeRows_58 rfl ?_
        refine r_iadd X dX9_takeRows_59 ?_
        refine r_cvi (rest := [.ref (ad p2)]) [.int (mI ((3 * x4) + 1))] X hw (fun ra σa h => c_X7_at l D cy ad bs F ((3 * x4) + 1) σ203 ra σa  h) sh_1 rfl (by decide) rfl km_X7_at kv_X7_at lm_X9_38 dX9_takeRows_60 hl.1 rfl rfl (Nat.le_of_ble_eq_true rfl) ⟨by decide, by decide⟩ ⟨Nat.zero_le _, Nat.zero_le _⟩ hf (fun r204 σ205 _ hf H locs hw => ?_)
        refine lv_aload_n hx hb dX9_takeRows_63 rfl (lv_at hl 1 rfl) ?_
        refine lv_iconst (v := mI 3) hx hb dX9_takeRows_64 rfl ?_
        refine lv_iload hx hb dX9_takeRows_65 (lv_at hl 4 rfl) ?_
        refine r_imul X dX9_takeRows_67 ?_
        refine lv_iconst (v := mI 2) hx hb dX9_takeRows_68 rfl ?_
        refine r_iadd X dX9_takeRows_69 ?_
        refine r_cvi (rest := [.int (mI r204), .ref (ad p2)]) [.int (mI ((3 * x4) + 2))] X hw (fun ra σa h => c_X7_at l D cy ad bs F ((3 * x4) + 2) σ205 ra σa  h) sh_1 rfl (by decide) rfl km_X7_at kv_X7_at lm_X9_38 dX9_takeRows_70 hl.1 rfl rfl (Nat.le_of_ble_eq_true rfl) ⟨by decide, by decide⟩ ⟨Nat.zero_le _, Nat.zero_le _⟩ hf (fun r206 σ207 _ hf H locs hw => ?_)
        refine r_cvi (rest := []) [.int (mI r204), .int (mI r206)] X hw (fun ra σa h => c_X5_hasCell l D cy ad bs F p2 r204 r206 σ207 ra σa hp2 h) hp2.1 rfl (by decide) rfl km_X5_hasCell kv_X5_hasCell lm_X9_42 dX9_takeRows_73 hl.1 rfl rfl (Nat.le_of_ble_eq_true rfl) ⟨by decide, by decide⟩ ⟨Nat.zero_le _, Nat.zero_le _⟩ hf (fun r208 σ209 _ hf H locs hw => ?_)
        refine r_if_ne (tgt := 81) X dX9_takeRows_76 (by decide) hf (fun hc hf => ?_) (fun hc hf => ?_)
        · refine lv_iinc (v := mI (x4 + 1)) (lv' := [(4, .int (mI (x4 + 1))), (0, .ref (ad 35)), (1, .ref (ad 1)), (2, .ref (ad p2)), (3, .int (mI x3))]) hx hb dX9_takeRows_81 hl (k := 4) rfl (mI_add _ _) (by decide) rfl (fun ls hl => ?_)
          refine lv_goto (tgt := 33) hx hb dX9_takeRows_84 (by decide) ?_
          exact hk33 x3 (x4 + 1) σ209 _ _ _ hw (lv_sub hl [1, 2, 3, 4, 0] rfl) hf
        · exact w_X9_takeRows_b79 X hp2 hw (lv_sub hl [0, 1, 2] rfl) hf
def g_X9_takeRows (F : Nat) (p2 : Nat) (σ : mMem) : mRs := if mw 3 = 0 then none else (mlet ((mw (σ 1 1)).tdiv (mw 3)) (fun y1 => if mw y1 < mw 1 then (g_X9_takeRows_b28 F p2 σ) else (if mw 16 < mw y1 then (g_X9_takeRows_b28 F p2 σ) else (if mw (y1 * 3) = mw (σ 1 1) then (g_X9_takeRows_h33 F p2 F y1 0 σ) else (g_X9_takeRows_b28 F p2 σ)))))
set_option maxRecDepth 100000 in
set_option maxHeartbeats 4000000 in
theorem c_X9_takeRows (l : Launch) (D : va_G) (cy : Nat → ClassId) (ad : Nat → Nat) (bs : Nat) (F : Nat) (p2 : Nat)  (σ : mMem) (r : Int) (σ' : mMem) (hp2 : mPlan p2) (hf : g_X9_takeRows F p2 σ = some (r, σ')) : mCi l D cy ad bs yX9_takeRows cX9_takeRows 5 (some .boolean) 2 [.ref (ad 35), .ref (ad 1), .ref (ad p2)] σ r σ' := by
  refine mCi.of (lv := [(0, .ref (ad 35)), (1, .ref (ad 1)), (2, .ref (ad p2))]) km_X9_takeRows.2.2.2.2.2 (Nat.le_of_ble_eq_true rfl) rfl (fun p e s m args below meth c H locs ls X hw hl => ?_)
  obtain ⟨⟨hx, hb, -, -, -⟩, -⟩ := id X
  unfold g_X9_takeRows at hf
  refine lv_aload_n hx hb dX9_takeRows_0 rfl (lv_at hl 1 rfl) ?_
  refine r_geti X hw sh_1 fd_7_1 rfl lf_X9_33 dX9_takeRows_1 ?_
  refine lv_iconst (v := mI 3) hx hb dX9_takeRows_4 rfl ?_
  refine r_idiv X dX9_takeRows_5 hf (fun hf => ?_)
  refine r_leti hf (fun y1 hf => ?_)
  refine lv_istore_n (lv' := [(3, .int (mI y1)), (0, .ref (ad 35)), (1, .ref (ad 1)), (2, .ref (ad p2))]) hx hb dX9_takeRows_6 rfl hl (by decide) rfl (fun ls hl => ?_)
  refine lv_iload_n hx hb dX9_takeRows_7 rfl (lv_at hl 0 rfl) ?_
  refine lv_iconst (v := mI 1) hx hb dX9_takeRows_8 rfl ?_
  refine r_icmp_lt (tgt := 28) X dX9_takeRows_9 (by decide) hf (fun hc hf => ?_) (fun hc hf => ?_)
  · exact w_X9_takeRows_b28 X hp2 hw (lv_sub hl [1, 2, 3] rfl) hf
  · refine lv_iload_n hx hb dX9_takeRows_12 rfl (lv_at hl 0 rfl) ?_
    refine lv_bipush (v := mI 16) hx hb dX9_takeRows_13 (by decide) ?_
    refine r_icmp_gt (tgt := 28) X dX9_takeRows_15 (by decide) hf (fun hc hf => ?_) (fun hc hf => ?_)
    · exact w_X9_takeRows_b28 X hp2 hw (lv_sub hl [1, 2, 3] rfl) hf
    · refine lv_iload_n hx hb dX9_takeRows_18 rfl (lv_at hl 0 rfl) ?_
      refine lv_iconst (v := mI 3) hx hb dX9_takeRows_19 rfl ?_
      refine r_imul X dX9_takeRows_20 ?_
      refine lv_aload_n hx hb dX9_takeRows_21 rfl (lv_at hl 2 rfl) ?_
      refine r_geti X hw sh_1 fd_7_1 rfl lf_X9_33 dX9_takeRows_22 ?_
      refine r_icmp_eq (tgt := 30) X dX9_takeRows_25 (by decide) hf (fun hc hf => ?_) (fun hc hf => ?_)
      · refine lv_iconst (v := mI 0) hx hb dX9_takeRows_30 rfl ?_
        refine lv_istore (lv' := [(4, .int (mI 0)), (3, .int (mI y1)), (0, .ref (ad 35)), (1, .ref (ad 1)), (2, .ref (ad p2))]) hx hb dX9_takeRows_31 hl (by decide) rfl (fun ls hl => ?_)
        exact w_X9_takeRows_h33 X hp2 _ hw (lv_sub hl [2, 3, 4, 1, 0] rfl) hf
      · exact w_X9_takeRows_b28 X hp2 hw (lv_sub hl [1, 2, 3] rfl) hf
def g_X9_fitsRows_b110 (F : Nat)  (x2 : Int) (σ : mMem) : mRs := if mw x2 = 0 ∨ mw x2 = 1 then some (x2, σ) else none
set_option maxRecDepth 100000 in
set_option maxHeartbeats 4000000 in
theorem w_X9_fitsRows_b110 {p : Program} {l : Launch} {e : Env} {s : State} {m : MethodId} {args : Array Value} {below : List Frame} {meth : Method} {c : Code} {D : va_G} {cy : Nat → ClassId} {ad : Nat → Nat} {bs : Nat} {F : Nat}  (X : mCx p m c cX9_fitsRows 6 s args RX9 meth D cy (some .boolean))  {r : Int} {σ' : mMem}   {x2 : Int} {σ : mMem} {H : Heap} {locs : List Loc} {ls : Array Slot} (hw : mWd D cy ad bs true mN σ s.heap H locs) (hl : lv_has ls 6 [(0, .ref (ad 35)), (2, .int (mI x2))]) (hf : g_X9_fitsRows_b110 F x2 σ = some (r, σ')) : mGi p l e 1 s m args below meth c D cy ad bs r σ' H locs (F0 m 110 ls []) := by
  obtain ⟨⟨hx, hb, -, -, -⟩, -⟩ := id X
  unfold g_X9_fitsRows_b110 at hf
  refine lv_iload_n hx hb dX9_fitsRows_110 rfl (lv_at hl 1 rfl) ?_
  exact r_zret X hw dX9_fitsRows_111 hf
def g_X9_fitsRows_b103 (F : Nat) (k18 : Int → Int → Int → mMem → mRs) (x1 x3 t0 : Int) (σ : mMem) : mRs := k18 x1 t0 (x3 + 1) σ
set_option maxRecDepth 100000 in
set_option maxHeartbeats 4000000 in
theorem w_X9_fitsRows_b103 {p : Program} {l : Launch} {e : Env} {s : State} {m : MethodId} {args : Array Value} {below : List Frame} {meth : Method} {c : Code} {D : va_G} {cy : Nat → ClassId} {ad : Nat → Nat} {bs : Nat} {F : Nat}  (X : mCx p m c cX9_fitsRows 6 s args RX9 meth D cy (some .boolean))  {r : Int} {σ' : mMem} {k18 : Int → Int → Int → mMem → mRs} (hk18 : ∀ (x1 x2 x3 : Int) (σ : mMem) (H : Heap) (locs : List Loc) (ls : Array Slot), mWd D cy ad bs true mN σ s.heap H locs → lv_has ls 6 [(0, .ref (ad 35)), (1, .int (mI x1)), (2, .int (mI x2)), (3, .int (mI x3))] → k18 x1 x2 x3 σ = some (r, σ') → mGi p l e 1 s m args below meth c D cy ad bs r σ' H locs (F0 m 18 ls [])) {x1 x3 t0 : Int} {σ : mMem} {H : Heap} {locs : List Loc} {ls : Array Slot} (hw : mWd D cy ad bs true mN σ s.heap H locs) (hl : lv_has ls 6 [(0, .ref (ad 35)), (1, .int (mI x1)), (3, .int (mI x3))]) (hf : g_X9_fitsRows_b103 F k18 x1 x3 t0 σ = some (r, σ')) : mGi p l e 1 s m args below meth c D cy ad bs r σ' H locs (F0 m 103 ls [.int (mI t0)]) := by
  obtain ⟨⟨hx, hb, -, -, -⟩, -⟩ := id X
  unfold g_X9_fitsRows_b103 at hf
  refine lv_istore_n (lv' := [(2, .int (mI t0)), (0, .ref (ad 35)), (1, .int (mI x1)), (3, .int (mI x3))]) hx hb dX9_fitsRows_103 rfl hl (by decide) rfl (fun ls hl => ?_)
  refine lv_iinc (v := mI (x3 + 1)) (lv' := [(3, .int (mI (x3 + 1))), (2, .int (mI t0)), (0, .ref (ad 35)), (1, .int (mI x1))]) hx hb dX9_fitsRows_104 hl (k := 3) rfl (mI_add _ _) (by decide) rfl (fun ls hl => ?_)
  refine lv_goto (tgt := 18) hx hb dX9_fitsRows_107 (by decide) ?_
  exact hk18 x1 t0 (x3 + 1) σ _ _ _ hw (lv_sub hl [2, 3, 1, 0] rfl) hf
def g_X9_fitsRows_b102 (F : Nat) (k18 : Int → Int → Int → mMem → mRs) (x1 x3 : Int) (σ : mMem) : mRs := g_X9_fitsRows_b103 F k18 x1 x3 0 σ
set_option maxRecDepth 100000 in
set_option maxHeartbeats 4000000 in
theorem w_X9_fitsRows_b102 {p : Program} {l : Launch} {e : Env} {s : State} {m : MethodId} {args : Array Value} {below : List Frame} {meth : Method} {c : Code} {D : va_G} {cy : Nat → ClassId} {ad : Nat → Nat} {bs : Nat} {F : Nat}  (X : mCx p m c cX9_fitsRows 6 s args RX9 meth D cy (some .boolean))  {r : Int} {σ' : mMem} {k18 : Int → Int → Int → mMem → mRs} (hk18 : ∀ (x1 x2 x3 : Int) (σ : mMem) (H : Heap) (locs : List Loc) (ls : Array Slot), mWd D cy ad bs true mN σ s.heap H locs → lv_has ls 6 [(0, .ref (ad 35)), (1, .int (mI x1)), (2, .int (mI x2)), (3, .int (mI x3))] → k18 x1 x2 x3 σ = some (r, σ') → mGi p l e 1 s m args below meth c D cy ad bs r σ' H locs (F0 m 18 ls [])) {x1 x3 : Int} {σ : mMem} {H : Heap} {locs : List Loc} {ls : Array Slot} (hw : mWd D cy ad bs true mN σ s.heap H locs) (hl : lv_has ls 6 [(0, .ref (ad 35)), (1, .int (mI x1)), (3, .int (mI x3))]) (hf : g_X9_fitsRows_b102 F k18 x1 x3 σ = some (r, σ')) : mGi p l e 1 s m args below meth c D cy ad bs r σ' H locs (F0 m 102 ls []) := by
  obtain ⟨⟨hx, hb, -, -, -⟩, -⟩ := id X
  unfold g_X9_fitsRows_b102 at hf
  refine lv_iconst (v := mI 0) hx hb dX9_fitsRows_102 rfl ?_
  exact w_X9_fitsRows_b103 X hk18 hw (lv_sub hl [0, 1, 2] rfl) hf
def g_X9_fitsRows_h18 (F : Nat)  : Nat → Int → Int → Int → mMem → mRs
  | 0, _, _, _, _ => none
  | n + 1, x1, x2, x3, σ => if mw x2 = 0 then (g_X9_fitsRows_b110 F x2 σ) else (if mw (σ 35 3) ≤ mw x3 then (g_X9_fitsRows_b110 F x2 σ) else (if mw 16 ≤ mw x3 then (g_X9_fitsRows_b110 F x2 σ) else (if 0 ≤ mw (3 * x3) ∧ mw (3 * x3) < (48 : Int) then mlet (σ 36 (mw (3 * x3)).toNat) (fun y301 => if 0 ≤ mw ((3 * x3) + 2) ∧ mw ((3 * x3) + 2) < (48 : Int) then if 0 ≤ mw ((3 * x3) + 1) ∧ mw ((3 * x3) + 1) < (48 : Int) then mlet (((σ 36 (mw ((3 * x3) + 2)).toNat) * 9) + (σ 36 (mw ((3 * x3) + 1)).toNat)) (fun y302 => if mw y301 < 0 then (g_X9_fitsRows_b102 F (g_X9_fitsRows_h18 F n) x1 x3 σ) else (if mw 40 < mw y301 then (g_X9_fitsRows_b102 F (g_X9_fitsRows_h18 F n) x1 x3 σ) else (if 0 ≤ mw x1 ∧ mw x1 < (10 : Int) then if 0 ≤ mw y301 ∧ mw y301 < (41 : Int) then if ¬ mw (σ (37 + 1 + (mw x1).toNat) (mw y301).toNat) = mw y302 then (g_X9_fitsRows_b102 F (g_X9_fitsRows_h18 F n) x1 x3 σ) else (g_X9_fitsRows_b103 F (g_X9_fitsRows_h18 F n) x1 x3 1 σ) else none else none))) else none else none) else none)))
set_option maxRecDepth 100000 in
set_option maxHeartbeats 4000000 in
theorem w_X9_fitsRows_h18 {p : Program} {l : Launch} {e : Env} {s : State} {m : MethodId} {args : Array Value} {below : List Frame} {meth : Method} {c : Code} {D : va_G} {cy : Nat → ClassId} {ad : Nat → Nat} {bs : Nat} {F : Nat}  (X : mCx p m c cX9_fitsRows 6 s args RX9 meth D cy (some .boolean))  {r : Int} {σ' : mMem}   (n : Nat) : ∀ {x1 x2 x3 : Int} {σ : mMem} {H : Heap} {locs : List Loc} {ls : Array Slot} (_ : mWd D cy ad bs true mN σ s.heap H locs) (_ : lv_has ls 6 [(0, .ref (ad 35)), (1, .int (mI x1)), (2, .int (mI x2)), (3, .int (mI x3))]) (_ : g_X9_fitsRows_h18 F n x1 x2 x3 σ = some (r, σ')), mGi p l e 1 s m args below meth c D cy ad bs r σ' H locs (F0 m 18 ls []) := by
  obtain ⟨⟨hx, hb, -, -, -⟩, -⟩ := id X
  induction n with
  | zero =>
    intro x1 x2 x3 σ H locs ls hw hl hf
    unfold g_X9_fitsRows_h18 at hf
    cases hf
  | succ n ih =>
    have hk18 : ∀ (x1 x2 x3 : Int) (σ : mMem) (H : Heap) (locs : List Loc) (ls : Array Slot), mWd D cy ad bs true mN σ s.heap H locs → lv_has ls 6 [(0, .ref (ad 35)), (1, .int (mI x1)), (2, .int (mI x2)), (3, .int (mI x3))] → g_X9_fitsRows_h18 F n x1 x2 x3 σ = some (r, σ') → mGi p l e 1 s m args below meth c D cy ad bs r σ' H locs (F0 m 18 ls []) := fun x1 x2 x3 σ H locs ls hw hl hf => ih hw hl hf
    intro x1 x2 x3 σ H locs ls hw hl hf
    unfold g_X9_fitsRows_h18 at hf
    refine lv_iload_n hx hb dX9_fitsRows_18 rfl (lv_at hl 2 rfl) ?_
    refine r_if_eq (tgt := 110) X dX9_fitsRows_19 (by decide) hf (fun hc hf => ?_) (fun hc hf => ?_)
    · exact w_X9_fitsRows_b110 X hw (lv_sub hl [0, 2] rfl) hf
    · refine lv_iload_n hx hb dX9_fitsRows_22 rfl (lv_at hl 3 rfl) ?_
      refine lv_aload_n hx hb dX9_fitsRows_23 rfl (lv_at hl 0 rfl) ?_
      refine r_geti X hw sh_35 fd_9_3 rfl lf_X9_29 dX9_fitsRows_24 ?_
      refine r_icmp_ge (tgt := 110) X dX9_fitsRows_27 (by decide) hf (fun hc hf => ?_) (fun hc hf => ?_)
      · exact w_X9_fitsRows_b110 X hw (lv_sub hl [0, 2] rfl) hf
      · refine lv_iload_n hx hb dX9_fitsRows_30 rfl (lv_at hl 3 rfl) ?_
        refine lv_bipush (v := mI 16) hx hb dX9_fitsRows_31 (by decide) ?_
        refine r_icmp_ge (tgt := 110) X dX9_fitsRows_33 (by decide) hf (fun hc hf => ?_) (fun hc hf => ?_)
        · exact w_X9_fitsRows_b110 X hw (lv_sub hl [0, 2] rfl) hf
        · refine lv_aload_n hx hb dX9_fitsRows_36 rfl (lv_at hl 0 rfl) ?_
          refine r_getr 36 X hw sh_35 fd_9_1 rfl rfl lf_X9_13 dX9_fitsRows_37 ?_
          refine lv_iconst (v := mI 3) hx hb dX9_fitsRows_40 rfl ?_
          refine lv_iload_n hx hb dX9_fitsRows_41 rfl (lv_at hl 3 rfl) ?_
          refine r_imul X dX9_fitsRows_42 ?_
          refine r_iald (48 : Int) rfl X hw sh_36 dX9_fitsRows_43 hf (fun hf => ?_)
          refine r_leti hf (fun y301 hf => ?_)
          refine lv_istore (lv' := [(4, .int (mI y301)), (0, .ref (ad 35)), (1, .int (mI x1)), (2, .int (mI x2)), (3, .int (mI x3))]) hx hb dX9_fitsRows_44 hl (by decide) rfl (fun ls hl => ?_)
          refine lv_aload_n hx hb dX9_fitsRows_46 rfl (lv_at hl 1 rfl) ?_
          refine r_getr 36 X hw sh_35 fd_9_1 rfl rfl lf_X9_13 dX9_fitsRows_47 ?_
          refine lv_iconst (v := mI 3) hx hb dX9_fitsRows_50 rfl ?_
          refine lv_iload_n hx hb dX9_fitsRows_51 rfl (lv_at hl 4 rfl) ?_
          refine r_imul X dX9_fitsRows_52 ?_
          refine lv_iconst (v := mI 2) hx hb dX9_fitsRows_53 rfl ?_
          refine r_iadd X dX9_fitsRows_54 ?_
          refine r_iald (48 : Int) rfl X hw sh_36 dX9_fitsRows_55 hf (fun hf => ?_)
          refine lv_bipush (v := mI 9) hx hb dX9_fitsRows_56 (by decide) ?_
          refine r_imul X dX9_fitsRows_58 ?_
          refine lv_aload_n hx hb dX9_fitsRows_59 rfl (lv_at hl 1 rfl) ?_
          refine r_getr 36 X hw sh_35 fd_9_1 rfl rfl lf_X9_13 dX9_fitsRows_60 ?_
          refine lv_iconst (v := mI 3) hx hb dX9_fitsRows_63 rfl ?_
          refine lv_iload_n hx hb dX9_fitsRows_64 rfl (lv_at hl 4 rfl) ?_
          refine r_imul X dX9_fitsRows_65 ?_
          refine lv_iconst (v := mI 1) hx hb dX9_fitsRows_66 rfl ?_
          refine r_iadd X dX9_fitsRows_67 ?_
          refine r_iald (48 : Int) rfl X hw sh_36 dX9_fitsRows_68 hf (fun hf => ?_)
          refine r_iadd X dX9_fitsRows_69 ?_
          refine r_leti hf (fun y302 hf => ?_)
          refine lv_istore (lv' := [(5, .int (mI y302)), (4, .int (mI y301)), (0, .ref (ad 35)), (1, .int (mI x1)), (2, .int (mI x2)), (3, .int (mI x3))]) hx hb dX9_fitsRows_70 hl (by decide) rfl (fun ls hl => ?_)
          refine lv_iload hx hb dX9_fitsRows_72 (lv_at hl 1 rfl) ?_
          refine r_if_lt (tgt := 102) X dX9_fitsRows_74 (by decide) hf (fun hc hf => ?_) (fun hc hf => ?_)
          · exact w_X9_fitsRows_b102 X hk18 hw (lv_sub hl [2, 3, 5] rfl) hf
          · refine lv_iload hx hb dX9_fitsRows_77 (lv_at hl 1 rfl) ?_
            refine lv_bipush (v := mI 40) hx hb dX9_fitsRows_79 (by decide) ?_
            refine r_icmp_gt (tgt := 102) X dX9_fitsRows_81 (by decide) hf (fun hc hf => ?_) (fun hc hf => ?_)
            · exact w_X9_fitsRows_b102 X hk18 hw (lv_sub hl [2, 3, 5] rfl) hf
            · refine lv_aload_n hx hb dX9_fitsRows_84 rfl (lv_at hl 2 rfl) ?_
              refine r_getr 37 X hw sh_35 fd_9_2 rfl rfl lf_X9_19 dX9_fitsRows_85 ?_
              refine lv_iload_n hx hb dX9_fitsRows_88 rfl (lv_at hl 3 rfl) ?_
              refine r_aald (10 : Int) rfl X hw sh_37 dX9_fitsRows_89 hf (fun hj303 hf => ?_)
              refine lv_iload hx hb dX9_fitsRows_90 (lv_at hl 1 rfl) ?_
              refine r_iald (41 : Int) rfl X hw (sh_r37 _ hj303) dX9_fitsRows_92 hf (fun hf => ?_)
              refine lv_iload hx hb dX9_fitsRows_93 (lv_at hl 0 rfl) ?_
              refine r_icmp_ne (tgt := 102) X dX9_fitsRows_95 (by decide) hf (fun hc hf => ?_) (fun hc hf => ?_)
              · exact w_X9_fitsRows_b102 X hk18 hw (lv_sub hl [2, 3, 5] rfl) hf
              · refine lv_iconst (v := mI 1) hx hb dX9_fitsRows_98 rfl ?_
                refine lv_goto (tgt := 103) hx hb dX9_fitsRows_99 (by decide) ?_
                exact w_X9_fitsRows_b103 X hk18 hw (lv_sub hl [2, 3, 5] rfl) hf
def g_X9_fitsRows_b15 (F : Nat)  (x1 t0 : Int) (σ : mMem) : mRs := g_X9_fitsRows_h18 F F x1 t0 0 σ
set_option maxRecDepth 100000 in
set_option maxHeartbeats 4000000 in
theorem w_X9_fitsRows_b15 {p : Program} {l : Launch} {e : Env} {s : State} {m : MethodId} {args : Array Value} {below : List Frame} {meth : Method} {c : Code} {D : va_G} {cy : Nat → ClassId} {ad : Nat → Nat} {bs : Nat} {F : Nat}  (X : mCx p m c cX9_fitsRows 6 s args RX9 meth D cy (some .boolean))  {r : Int} {σ' : mMem}   {x1 t0 : Int} {σ : mMem} {H : Heap} {locs : List Loc} {ls : Array Slot} (hw : mWd D cy ad bs true mN σ s.heap H locs) (hl : lv_has ls 6 [(0, .ref (ad 35)), (1, .int (mI x1))]) (hf : g_X9_fitsRows_b15 F x1 t0 σ = some (r, σ')) : mGi p l e 1 s m args below meth c D cy ad bs r σ' H locs (F0 m 15 ls [.int (mI t0)]) := by
  obtain ⟨⟨hx, hb, -, -, -⟩, -⟩ := id X
  unfold g_X9_fitsRows_b15 at hf
  refine lv_istore_n (lv' := [(2, .int (mI t0)), (0, .ref (ad 35)), (1, .int (mI x1))]) hx hb dX9_fitsRows_15 rfl hl (by decide) rfl (fun ls hl => ?_)
  refine lv_iconst (v := mI 0) hx hb dX9_fitsRows_16 rfl ?_
  refine lv_istore_n (lv' := [(3, .int (mI 0)), (2, .int (mI t0)), (0, .ref (ad 35)), (1, .int (mI x1))]) hx hb dX9_fitsRows_17 rfl hl (by decide) rfl (fun ls hl => ?_)
  exact w_X9_fitsRows_h18 X _ hw (lv_sub hl [2, 3, 1, 0] rfl) hf
def g_X9_fitsRows_b14 (F : Nat)  (x1 : Int) (σ : mMem) : mRs := g_X9_fitsRows_b15 F x1 0 σ
set_option maxRecDepth 100000 in
set_option maxHeartbeats 4000000 in
theorem w_X9_fitsRows_b14 {p : Program} {l : Launch} {e : Env} {s : State} {m : MethodId} {args : Array Value} {below : List Frame} {meth : Method} {c : Code} {D : va_G} {cy : Nat → ClassId} {ad : Nat → Nat} {bs : Nat} {F : Nat}  (X : mCx p m c cX9_fitsRows 6 s args RX9 meth D cy (some .boolean))  {r : Int} {σ' : mMem}   {x1 : Int} {σ : mMem} {H : Heap} {locs : List Loc} {ls : Array Slot} (hw : mWd D cy ad bs true mN σ s.heap H locs) (hl : lv_has ls 6 [(0, .ref (ad 35)), (1, .int (mI x1))]) (hf : g_X9_fitsRows_b14 F x1 σ = some (r, σ')) : mGi p l e 1 s m args below meth c D cy ad bs r σ' H locs (F0 m 14 ls []) := by
  obtain ⟨⟨hx, hb, -, -, -⟩, -⟩ := id X
  unfold g_X9_fitsRows_b14 at hf
  refine lv_iconst (v := mI 0) hx hb dX9_fitsRows_14 rfl ?_
  exact w_X9_fitsRows_b15 X hw (lv_sub hl [0, 1] rfl) hf
def g_X9_fitsRows (F : Nat) (x1 : Int) (σ : mMem) : mRs := if mw x1 < 0 then (g_X9_fitsRows_b14 F x1 σ) else (if mw 10 ≤ mw x1 then (g_X9_fitsRows_b14 F x1 σ) else (g_X9_fitsRows_b15 F x1 1 σ))
set_option maxRecDepth 100000 in
set_option maxHeartbeats 4000000 in
theorem c_X9_fitsRows (l : Launch) (D : va_G) (cy : Nat → ClassId) (ad : Nat → Nat) (bs : Nat) (F : Nat)  (x1 : Int) (σ : mMem) (r : Int) (σ' : mMem)  (hf : g_X9_fitsRows F x1 σ = some (r, σ')) : mCi l D cy ad bs yX9_fitsRows cX9_fitsRows 6 (some .boolean) 1 [.ref (ad 35), .int (mI x1)] σ r σ' := by
  refine mCi.of (lv := [(0, .ref (ad 35)), (1, .int (mI x1))]) km_X9_fitsRows.2.2.2.2.2 (Nat.le_of_ble_eq_true rfl) rfl (fun p e s m args below meth c H locs ls X hw hl => ?_)
  obtain ⟨⟨hx, hb, -, -, -⟩, -⟩ := id X
  unfold g_X9_fitsRows at hf
  refine lv_iload_n hx hb dX9_fitsRows_0 rfl (lv_at hl 1 rfl) ?_
  refine r_if_lt (tgt := 14) X dX9_fitsRows_1 (by decide) hf (fun hc hf => ?_) (fun hc hf => ?_)
  · exact w_X9_fitsRows_b14 X hw (lv_sub hl [0, 1] rfl) hf
  · refine lv_iload_n hx hb dX9_fitsRows_4 rfl (lv_at hl 1 rfl) ?_
    refine lv_bipush (v := mI 10) hx hb dX9_fitsRows_5 (by decide) ?_
    refine r_icmp_ge (tgt := 14) X dX9_fitsRows_7 (by decide) hf (fun hc hf => ?_) (fun hc hf => ?_)
    · exact w_X9_fitsRows_b14 X hw (lv_sub hl [0, 1] rfl) hf
    · refine lv_iconst (v := mI 1) hx hb dX9_fitsRows_10 rfl ?_
      refine lv_goto (tgt := 15) hx hb dX9_fitsRows_11 (by decide) ?_
      exact w_X9_fitsRows_b15 X hw (lv_sub hl [0, 1] rfl) hf
def g_X9_bitsLeft_b26 (F : Nat) (k4 : Int → Int → mMem → mRs) (x2 t0 t1 : Int) (σ : mMem) : mRs := mlet (mor t0 t1) (fun y203 => k4 y203 (x2 + 1) σ)
set_option maxRecDepth 100000 in
set_option maxHeartbeats 4000000 in
theorem w_X9_bitsLeft_b26 {p : Program} {l : Launch} {e : Env} {s : State} {m : MethodId} {args : Array Value} {below : List Frame} {meth : Method} {c : Code} {D : va_G} {cy : Nat → ClassId} {ad : Nat → Nat} {bs : Nat} {F : Nat}  (X : mCx p m c cX9_bitsLeft 3 s args RX9 meth D cy (some .int))  {r : Int} {σ' : mMem} {k4 : Int → Int → mMem → mRs} (hk4 : ∀ (x1 x2 : Int) (σ : mMem) (H : Heap) (locs : List Loc) (ls : Array Slot), mWd D cy ad bs true mN σ s.heap H locs → lv_has ls 3 [(0, .ref (ad 35)), (1, .int (mI x1)), (2, .int (mI x2))] → k4 x1 x2 σ = some (r, σ') → mGi p l e 2 s m args below meth c D cy ad bs r σ' H locs (F0 m 4 ls [])) {x2 t0 t1 : Int} {σ : mMem} {H : Heap} {locs : List Loc} {ls : Array Slot} (hw : mWd D cy ad bs true mN σ s.heap H locs) (hl : lv_has ls 3 [(0, .ref (ad 35)), (2, .int (mI x2))]) (hf : g_X9_bitsLeft_b26 F k4 x2 t0 t1 σ = some (r, σ')) : mGi p l e 2 s m args below meth c D cy ad bs r σ' H locs (F0 m 26 ls [.int (mI t1), .int (mI t0)]) := by
  obtain ⟨⟨hx, hb, -, -, -⟩, -⟩ := id X
  unfold g_X9_bitsLeft_b26 at hf
  refine r_ior X dX9_bitsLeft_26 ?_
  refine r_leti hf (fun y203 hf => ?_)
  refine lv_istore_n (lv' := [(1, .int (mI y203)), (0, .ref (ad 35)), (2, .int (mI x2))]) hx hb dX9_bitsLeft_27 rfl hl (by decide) rfl (fun ls hl => ?_)
  refine lv_iinc (v := mI (x2 + 1)) (lv' := [(2, .int (mI (x2 + 1))), (1, .int (mI y203)), (0, .ref (ad 35))]) hx hb dX9_bitsLeft_28 hl (k := 2) rfl (mI_add _ _) (by decide) rfl (fun ls hl => ?_)
  refine lv_goto (tgt := 4) hx hb dX9_bitsLeft_31 (by decide) ?_
  exact hk4 y203 (x2 + 1) σ _ _ _ hw (lv_sub hl [2, 1, 0] rfl) hf
def g_X9_bitsLeft_h4 (F : Nat)  : Nat → Int → Int → mMem → mRs
  | 0, _, _, _ => none
  | n + 1, x1, x2, σ => if mw 10 ≤ mw x2 then (some (x1, σ)) else (mob (g_X9_fitsRows F x2 σ) (fun r101 σ102 => if mw r101 = 0 then (g_X9_bitsLeft_b26 F (g_X9_bitsLeft_h4 F n) x2 x1 0 σ102) else (g_X9_bitsLeft_b26 F (g_X9_bitsLeft_h4 F n) x2 x1 (mshl 1 x2) σ102)))
set_option maxRecDepth 100000 in
set_option maxHeartbeats 4000000 in
theorem w_X9_bitsLeft_h4 {p : Program} {l : Launch} {e : Env} {s : State} {m : MethodId} {args : Array Value} {below : List Frame} {meth : Method} {c : Code} {D : va_G} {cy : Nat → ClassId} {ad : Nat → Nat} {bs : Nat} {F : Nat}  (X : mCx p m c cX9_bitsLeft 3 s args RX9 meth D cy (some .int))  {r : Int} {σ' : mMem}   (n : Nat) : ∀ {x1 x2 : Int} {σ : mMem} {H : Heap} {locs : List Loc} {ls : Array Slot} (_ : mWd D cy ad bs true mN σ s.heap H locs) (_ : lv_has ls 3 [(0, .ref (ad 35)), (1, .int (mI x1)), (2, .int (mI x2))]) (_ : g_X9_bitsLeft_h4 F n x1 x2 σ = some (r, σ')), mGi p l e 2 s m args below meth c D cy ad bs r σ' H locs (F0 m 4 ls []) := by
  obtain ⟨⟨hx, hb, -, -, -⟩, -⟩ := id X
  induction n with
  | zero =>
    intro x1 x2 σ H locs ls hw hl hf
    unfold g_X9_bitsLeft_h4 at hf
    cases hf
  | succ n ih =>
    have hk4 : ∀ (x1 x2 : Int) (σ : mMem) (H : Heap) (locs : List Loc) (ls : Array Slot), mWd D cy ad bs true mN σ s.heap H locs → lv_has ls 3 [(0, .ref (ad 35)), (1, .int (mI x1)), (2, .int (mI x2))] → g_X9_bitsLeft_h4 F n x1 x2 σ = some (r, σ') → mGi p l e 2 s m args below meth c D cy ad bs r σ' H locs (F0 m 4 ls []) := fun x1 x2 σ H locs ls hw hl hf => ih hw hl hf
    intro x1 x2 σ H locs ls hw hl hf
    unfold g_X9_bitsLeft_h4 at hf
    refine lv_iload_n hx hb dX9_bitsLeft_4 rfl (lv_at hl 2 rfl) ?_
    refine lv_bipush (v := mI 10) hx hb dX9_bitsLeft_5 (by decide) ?_
    refine r_icmp_ge (tgt := 34) X dX9_bitsLeft_7 (by decide) hf (fun hc hf => ?_) (fun hc hf => ?_)
    · refine lv_iload_n hx hb dX9_bitsLeft_34 rfl (lv_at hl 1 rfl) ?_
      exact r_iret X hw dX9_bitsLeft_35 hf
    · refine lv_iload_n hx hb dX9_bitsLeft_10 rfl (lv_at hl 1 rfl) ?_
      refine lv_aload_n hx hb dX9_bitsLeft_11 rfl (lv_at hl 0 rfl) ?_
      refine lv_iload_n hx hb dX9_bitsLeft_12 rfl (lv_at hl 2 rfl) ?_
      refine r_cvi (rest := [.int (mI x1)]) [.int (mI x2)] X hw (fun ra σa h => c_X9_fitsRows l D cy ad bs F x2 σ ra σa  h) sh_35 rfl (by decide) rfl km_X9_fitsRows kv_X9_fitsRows lm_X9_56 dX9_bitsLeft_13 hl.1 rfl rfl (Nat.le_of_ble_eq_true rfl) ⟨by decide, by decide⟩ ⟨Nat.zero_le _, Nat.zero_le _⟩ hf (fun r101 σ102 _ hf H locs hw => ?_)
      refine r_if_eq (tgt := 25) X dX9_bitsLeft_16 (by decide) hf (fun hc hf => ?_) (fun hc hf => ?_)
      · refine lv_iconst (v := mI 0) hx hb dX9_bitsLeft_25 rfl ?_
        exact w_X9_bitsLeft_b26 X hk4 hw (lv_sub hl [0, 2] rfl) hf
      · refine lv_iconst (v := mI 1) hx hb dX9_bitsLeft_19 rfl ?_
        refine lv_iload_n hx hb dX9_bitsLeft_20 rfl (lv_at hl 2 rfl) ?_
        refine r_ishl X dX9_bitsLeft_21 ?_
        refine lv_goto (tgt := 26) hx hb dX9_bitsLeft_22 (by decide) ?_
        exact w_X9_bitsLeft_b26 X hk4 hw (lv_sub hl [0, 2] rfl) hf
def g_X9_bitsLeft (F : Nat) (σ : mMem) : mRs := g_X9_bitsLeft_h4 F F 0 0 σ
set_option maxRecDepth 100000 in
set_option maxHeartbeats 4000000 in
theorem c_X9_bitsLeft (l : Launch) (D : va_G) (cy : Nat → ClassId) (ad : Nat → Nat) (bs : Nat) (F : Nat)   (σ : mMem) (r : Int) (σ' : mMem)  (hf : g_X9_bitsLeft F  σ = some (r, σ')) : mCi l D cy ad bs yX9_bitsLeft cX9_bitsLeft 3 (some .int) 2 [.ref (ad 35)] σ r σ' := by
  refine mCi.of (lv := [(0, .ref (ad 35))]) km_X9_bitsLeft.2.2.2.2.2 (Nat.le_of_ble_eq_true rfl) rfl (fun p e s m args below meth c H locs ls X hw hl => ?_)
  obtain ⟨⟨hx, hb, -, -, -⟩, -⟩ := id X
  unfold g_X9_bitsLeft at hf
  refine lv_iconst (v := mI 0) hx hb dX9_bitsLeft_0 rfl ?_
  refine lv_istore_n (lv' := [(1, .int (mI 0)), (0, .ref (ad 35))]) hx hb dX9_bitsLeft_1 rfl hl (by decide) rfl (fun ls hl => ?_)
  refine lv_iconst (v := mI 0) hx hb dX9_bitsLeft_2 rfl ?_
  refine lv_istore_n (lv' := [(2, .int (mI 0)), (1, .int (mI 0)), (0, .ref (ad 35))]) hx hb dX9_bitsLeft_3 rfl hl (by decide) rfl (fun ls hl => ?_)
  exact w_X9_bitsLeft_h4 X _ hw (lv_sub hl [2, 1, 0] rfl) hf
def g_X9_placeOf (F : Nat) (x1 : Int) (σ : mMem) : mRs := mob (g_X10_of F 48 x1 1 σ) (fun r1 σ2 => mob (g_X10_of F 48 x1 0 σ2) (fun r3 σ4 => some ((r1 * 9) + r3, σ4)))
set_option maxRecDepth 100000 in
set_option maxHeartbeats 4000000 in
theorem c_X9_placeOf (l : Launch) (D : va_G) (cy : Nat → ClassId) (ad : Nat → Nat) (bs : Nat) (F : Nat)  (x1 : Int) (σ : mMem) (r : Int) (σ' : mMem)  (hf : g_X9_placeOf F x1 σ = some (r, σ')) : mCi l D cy ad bs yX9_placeOf cX9_placeOf 2 (some .int) 2 [.ref (ad 35), .int (mI x1)] σ r σ' := by
  refine mCi.of (lv := [(0, .ref (ad 35)), (1, .int (mI x1))]) km_X9_placeOf.2.2.2.2.2 (Nat.le_of_ble_eq_true rfl) rfl (fun p e s m args below meth c H locs ls X hw hl => ?_)
  obtain ⟨⟨hx, hb, -, -, -⟩, -⟩ := id X
  unfold g_X9_placeOf at hf
  refine lv_aload_n hx hb dX9_placeOf_0 rfl (lv_at hl 0 rfl) ?_
  refine r_getr 48 X hw sh_35 fd_9_0 rfl rfl lf_X9_25 dX9_placeOf_1 ?_
  refine lv_iload_n hx hb dX9_placeOf_4 rfl (lv_at hl 1 rfl) ?_
  refine lv_iconst (v := mI 1) hx hb dX9_placeOf_5 rfl ?_
  refine r_cvi (rest := []) [.int (mI x1), .int (mI 1)] X hw (fun ra σa h => c_X10_of l D cy ad bs F 48 x1 1 σ ra σa sh_w48 h) sh_48 rfl (by decide) rfl km_X10_of kv_X10_of lm_X9_88 dX9_placeOf_6 hl.1 rfl rfl (Nat.le_of_ble_eq_true rfl) ⟨by decide, by decide⟩ ⟨Nat.zero_le _, Nat.zero_le _⟩ hf (fun r1 σ2 _ hf H locs hw => ?_)
  refine lv_bipush (v := mI 9) hx hb dX9_placeOf_9 (by decide) ?_
  refine r_imul X dX9_placeOf_11 ?_
  refine lv_aload_n hx hb dX9_placeOf_12 rfl (lv_at hl 0 rfl) ?_
  refine r_getr 48 X hw sh_35 fd_9_0 rfl rfl lf_X9_25 dX9_placeOf_13 ?_
  refine lv_iload_n hx hb dX9_placeOf_16 rfl (lv_at hl 1 rfl) ?_
  refine lv_iconst (v := mI 0) hx hb dX9_placeOf_17 rfl ?_
  refine r_cvi (rest := [.int (mI (r1 * 9))]) [.int (mI x1), .int (mI 0)] X hw (fun ra σa h => c_X10_of l D cy ad bs F 48 x1 0 σ2 ra σa sh_w48 h) sh_48 rfl (by decide) rfl km_X10_of kv_X10_of lm_X9_88 dX9_placeOf_18 hl.1 rfl rfl (Nat.le_of_ble_eq_true rfl) ⟨by decide, by decide⟩ ⟨Nat.zero_le _, Nat.zero_le _⟩ hf (fun r3 σ4 _ hf H locs hw => ?_)
  refine r_iadd X dX9_placeOf_21 ?_
  exact r_iret X hw dX9_placeOf_22 hf
def g_X9_followAll_b99 (F : Nat) (w1 : Nat) (k10 : Int → Int → Int → mMem → mRs) (x2 x3 x4 : Int) (σ : mMem) : mRs := k10 x2 x3 (x4 + 1) σ
set_option maxRecDepth 100000 in
set_option maxHeartbeats 4000000 in
theorem w_X9_followAll_b99 {p : Program} {l : Launch} {e : Env} {s : State} {m : MethodId} {args : Array Value} {below : List Frame} {meth : Method} {c : Code} {D : va_G} {cy : Nat → ClassId} {ad : Nat → Nat} {bs : Nat} {F : Nat} {w1 : Nat} (X : mCx p m c cX9_followAll 6 s args RX9 meth D cy none) (hw1 : mWorld w1) {r : Int} {σ' : mMem} {k10 : Int → Int → Int → mMem → mRs} (hk10 : ∀ (x2 x3 x4 : Int) (σ : mMem) (H : Heap) (locs : List Loc) (ls : Array Slot), mWd D cy ad bs true mN σ s.heap H locs → lv_has ls 6 [(0, .ref (ad 35)), (1, .ref (ad w1)), (2, .int (mI x2)), (3, .int (mI x3)), (4, .int (mI x4))] → k10 x2 x3 x4 σ = some (r, σ') → mGv p l e 6 s m args below meth c D cy ad bs σ' H locs (F0 m 10 ls [])) {x2 x3 x4 : Int} {σ : mMem} {H : Heap} {locs : List Loc} {ls : Array Slot} (hw : mWd D cy ad bs true mN σ s.heap H locs) (hl : lv_has ls 6 [(0, .ref (ad 35)), (1, .ref (ad w1)), (2, .int (mI x2)), (3, .int (mI x3)), (4, .int (mI x4))]) (hf : g_X9_followAll_b99 F w1 k10 x2 x3 x4 σ = some (r, σ')) : mGv p l e 6 s m args below meth c D cy ad bs σ' H locs (F0 m 99 ls []) := by
  obtain ⟨⟨hx, hb, -, -, -⟩, -⟩ := id X
  unfold g_X9_followAll_b99 at hf
  refine lv_iinc (v := mI (x4 + 1)) (lv' := [(4, .int (mI (x4 + 1))), (0, .ref (ad 35)), (1, .ref (ad w1)), (2, .int (mI x2)), (3, .int (mI x3))]) hx hb dX9_followAll_99 hl (k := 4) rfl (mI_add _ _) (by decide) rfl (fun ls hl => ?_)
  refine lv_goto (tgt := 10) hx hb dX9_followAll_102 (by decide) ?_
  exact hk10 x2 x3 (x4 + 1) σ _ _ _ hw (lv_sub hl [1, 2, 3, 4, 0] rfl) hf
def g_X9_followAll_b78 (F : Nat) (w1 : Nat) (k10 : Int → Int → Int → mMem → mRs) (k51 : Int → Int → Int → Int → mMem → mRs) (x2 x3 x4 x5 : Int) (σ : mMem) : mRs := if 0 ≤ mw x4 ∧ mw x4 < (10 : Int) then mob (g_X9_placeOf F x2 σ) (fun r413 σ414 => if 0 ≤ mw x5 ∧ mw x5 < (41 : Int) then mlm (mup σ414 (37 + 1 + (mw x4).toNat) (mw x5).toNat r413) (fun σ415 => k51 x2 x3 x4 (x5 + 1) σ415) else none) else none
set_option maxRecDepth 100000 in
set_option maxHeartbeats 4000000 in
theorem w_X9_followAll_b78 {p : Program} {l : Launch} {e : Env} {s : State} {m : MethodId} {args : Array Value} {below : List Frame} {meth : Method} {c : Code} {D : va_G} {cy : Nat → ClassId} {ad : Nat → Nat} {bs : Nat} {F : Nat} {w1 : Nat} (X : mCx p m c cX9_followAll 6 s args RX9 meth D cy none) (hw1 : mWorld w1) {r : Int} {σ' : mMem} {k10 : Int → Int → Int → mMem → mRs} {k51 : Int → Int → Int → Int → mMem → mRs} (hk10 : ∀ (x2 x3 x4 : Int) (σ : mMem) (H : Heap) (locs : List Loc) (ls : Array Slot), mWd D cy ad bs true mN σ s.heap H locs → lv_has ls 6 [(0, .ref (ad 35)), (1, .ref (ad w1)), (2, .int (mI x2)), (3, .int (mI x3)), (4, .int (mI x4))] → k10 x2 x3 x4 σ = some (r, σ') → mGv p l e 6 s m args below meth c D cy ad bs σ' H locs (F0 m 10 ls [])) (hk51 : ∀ (x2 x3 x4 x5 : Int) (σ : mMem) (H : Heap) (locs : List Loc) (ls : Array Slot), mWd D cy ad bs true mN σ s.heap H locs → lv_has ls 6 [(0, .ref (ad 35)), (1, .ref (ad w1)), (2, .int (mI x2)), (3, .int (mI x3)), (4, .int (mI x4)), (5, .int (mI x5))] → k51 x2 x3 x4 x5 σ = some (r, σ') → mGv p l e 6 s m args below meth c D cy ad bs σ' H locs (F0 m 51 ls [])) {x2 x3 x4 x5 : Int} {σ : mMem} {H : Heap} {locs : List Loc} {ls : Array Slot} (hw : mWd D cy ad bs true mN σ s.heap H locs) (hl : lv_has ls 6 [(0, .ref (ad 35)), (1, .ref (ad w1)), (2, .int (mI x2)), (3, .int (mI x3)), (4, .int (mI x4)), (5, .int (mI x5))]) (hf : g_X9_followAll_b78 F w1 k10 k51 x2 x3 x4 x5 σ = some (r, σ')) : mGv p l e 6 s m args below meth c D cy ad bs σ' H locs (F0 m 78 ls []) := by
  obtain ⟨⟨hx, hb, -, -, -⟩, -⟩ := id X
  unfold g_X9_followAll_b78 at hf
  refine lv_aload_n hx hb dX9_followAll_78 rfl (lv_at hl 0 rfl) ?_
  refine r_getr 37 X hw sh_35 fd_9_2 rfl rfl lf_X9_19 dX9_followAll_79 ?_
  refine lv_iload hx hb dX9_followAll_82 (lv_at hl 4 rfl) ?_
  refine r_aald (10 : Int) rfl X hw sh_37 dX9_followAll_84 hf (fun hj412 hf => ?_)
  refine lv_iload hx hb dX9_followAll_85 (lv_at hl 5 rfl) ?_
  refine lv_aload_n hx hb dX9_followAll_87 rfl (lv_at hl 0 rfl) ?_
  refine lv_iload_n hx hb dX9_followAll_88 rfl (lv_at hl 2 rfl) ?_
  refine r_cvi (rest := [.int (mI x5), .ref (ad (37 + 1 + (mw x4).toNat))]) [.int (mI x2)] X hw (fun ra σa h => c_X9_placeOf l D cy ad bs F x2 σ ra σa  h) sh_35 rfl (by decide) rfl km_X9_placeOf kv_X9_placeOf lm_X9_85 dX9_followAll_89 hl.1 rfl rfl (Nat.le_of_ble_eq_true rfl) ⟨by decide, by decide⟩ ⟨Nat.zero_le _, Nat.zero_le _⟩ hf (fun r413 σ414 _ hf H locs hw => ?_)
  refine r_iast (41 : Int) rfl X hw (sh_r37 _ hj412) dX9_followAll_92 hf (fun hf H locs hw => ?_)
  refine r_mem hf hw (fun σ415 hw hf => ?_)
  refine lv_iinc (v := mI (x5 + 1)) (lv' := [(5, .int (mI (x5 + 1))), (0, .ref (ad 35)), (1, .ref (ad w1)), (2, .int (mI x2)), (3, .int (mI x3)), (4, .int (mI x4))]) hx hb dX9_followAll_93 hl (k := 5) rfl (mI_add _ _) (by decide) rfl (fun ls hl => ?_)
  refine lv_goto (tgt := 51) hx hb dX9_followAll_96 (by decide) ?_
  exact hk51 x2 x3 x4 (x5 + 1) σ415 _ _ _ hw (lv_sub hl [1, 2, 3, 4, 5, 0] rfl) hf
def g_X9_followAll_h51 (F : Nat) (w1 : Nat) (k10 : Int → Int → Int → mMem → mRs) : Nat → Int → Int → Int → Int → mMem → mRs
  | 0, _, _, _, _, _ => none
  | n + 1, x2, x3, x4, x5, σ => if mw x3 < mw x5 then (g_X9_followAll_b99 F w1 k10 x2 x3 x4 σ) else (if mw 40 < mw x5 then (g_X9_followAll_b99 F w1 k10 x2 x3 x4 σ) else (if mw x5 ≤ 0 then (g_X9_followAll_b78 F w1 k10 (g_X9_followAll_h51 F w1 k10 n) x2 x3 x4 x5 σ) else (mob (g_X10_pass F 48 0 0 σ) (fun r210 σ211 => g_X9_followAll_b78 F w1 k10 (g_X9_followAll_h51 F w1 k10 n) x2 x3 x4 x5 σ211))))
set_option maxRecDepth 100000 in
set_option maxHeartbeats 4000000 in
theorem w_X9_followAll_h51 {p : Program} {l : Launch} {e : Env} {s : State} {m : MethodId} {args : Array Value} {below : List Frame} {meth : Method} {c : Code} {D : va_G} {cy : Nat → ClassId} {ad : Nat → Nat} {bs : Nat} {F : Nat} {w1 : Nat} (X : mCx p m c cX9_followAll 6 s args RX9 meth D cy none) (hw1 : mWorld w1) {r : Int} {σ' : mMem} {k10 : Int → Int → Int → mMem → mRs} (hk10 : ∀ (x2 x3 x4 : Int) (σ : mMem) (H : Heap) (locs : List Loc) (ls : Array Slot), mWd D cy ad bs true mN σ s.heap H locs → lv_has ls 6 [(0, .ref (ad 35)), (1, .ref (ad w1)), (2, .int (mI x2)), (3, .int (mI x3)), (4, .int (mI x4))] → k10 x2 x3 x4 σ = some (r, σ') → mGv p l e 6 s m args below meth c D cy ad bs σ' H locs (F0 m 10 ls [])) (n : Nat) : ∀ {x2 x3 x4 x5 : Int} {σ : mMem} {H : Heap} {locs : List Loc} {ls : Array Slot} (_ : mWd D cy ad bs true mN σ s.heap H locs) (_ : lv_has ls 6 [(0, .ref (ad 35)), (1, .ref (ad w1)), (2, .int (mI x2)), (3, .int (mI x3)), (4, .int (mI x4)), (5, .int (mI x5))]) (_ : g_X9_followAll_h51 F w1 k10 n x2 x3 x4 x5 σ = some (r, σ')), mGv p l e 6 s m args below meth c D cy ad bs σ' H locs (F0 m 51 ls []) := by
  obtain ⟨⟨hx, hb, -, -, -⟩, -⟩ := id X
  induction n with
  | zero =>
    intro x2 x3 x4 x5 σ H locs ls hw hl hf
    unfold g_X9_followAll_h51 at hf
    cases hf
  | succ n ih =>
    have hk51 : ∀ (x2 x3 x4 x5 : Int) (σ : mMem) (H : Heap) (locs : List Loc) (ls : Array Slot), mWd D cy ad bs true mN σ s.heap H locs → lv_has ls 6 [(0, .ref (ad 35)), (1, .ref (ad w1)), (2, .int (mI x2)), (3, .int (mI x3)), (4, .int (mI x4)), (5, .int (mI x5))] → g_X9_followAll_h51 F w1 k10 n x2 x3 x4 x5 σ = some (r, σ') → mGv p l e 6 s m args below meth c D cy ad bs σ' H locs (F0 m 51 ls []) := fun x2 x3 x4 x5 σ H locs ls hw hl hf => ih hw hl hf
    intro x2 x3 x4 x5 σ H locs ls hw hl hf
    unfold g_X9_followAll_h51 at hf
    refine lv_iload hx hb dX9_followAll_51 (lv_at hl 5 rfl) ?_
    refine lv_iload_n hx hb dX9_followAll_53 rfl (lv_at hl 3 rfl) ?_
    refine r_icmp_gt (tgt := 99) X dX9_followAll_54 (by decide) hf (fun hc hf => ?_) (fun hc hf => ?_)
    · exact w_X9_followAll_b99 X hw1 hk10 hw (lv_sub hl [0, 1, 2, 3, 4] rfl) hf
    · refine lv_iload hx hb dX9_followAll_57 (lv_at hl 5 rfl) ?_
      refine lv_bipush (v := mI 40) hx hb dX9_followAll_59 (by decide) ?_
      refine r_icmp_gt (tgt := 99) X dX9_followAll_61 (by decide) hf (fun hc hf => ?_) (fun hc hf => ?_)
      · exact w_X9_followAll_b99 X hw1 hk10 hw (lv_sub hl [0, 1, 2, 3, 4] rfl) hf
      · refine lv_iload hx hb dX9_followAll_64 (lv_at hl 5 rfl) ?_
        refine r_if_le (tgt := 78) X dX9_followAll_66 (by decide) hf (fun hc hf => ?_) (fun hc hf => ?_)
        · exact w_X9_followAll_b78 X hw1 hk10 hk51 hw (lv_sub hl [0, 1, 2, 3, 4, 5] rfl) hf
        · refine lv_aload_n hx hb dX9_followAll_69 rfl (lv_at hl 0 rfl) ?_
          refine r_getr 48 X hw sh_35 fd_9_0 rfl rfl lf_X9_25 dX9_followAll_70 ?_
          refine lv_iconst (v := mI 0) hx hb dX9_followAll_73 rfl ?_
          refine lv_iconst (v := mI 0) hx hb dX9_followAll_74 rfl ?_
          refine r_cvv (rest := []) [.int (mI 0), .int (mI 0)] X hw (fun ra σa h => c_X10_pass l D cy ad bs F 48 0 0 σ ra σa sh_w48 h) sh_48 rfl (by decide) rfl km_X10_pass kv_X10_pass lm_X9_81 dX9_followAll_75 hl.1 rfl rfl (Nat.le_of_ble_eq_true rfl) ⟨by decide, by decide⟩ ⟨Nat.zero_le _, Nat.zero_le _⟩ hf (fun r210 σ211 _ hf H locs hw => ?_)
          exact w_X9_followAll_b78 X hw1 hk10 hk51 hw (lv_sub hl [0, 1, 2, 3, 4, 5] rfl) hf
def g_X9_followAll_h10 (F : Nat) (w1 : Nat)  : Nat → Int → Int → Int → mMem → mRs
  | 0, _, _, _, _ => none
  | n + 1, x2, x3, x4, σ => if mw 10 ≤ mw x4 then (some (0, σ)) else (mob (g_X10_copyFrom F 48 w1 σ) (fun r103 σ104 => mob (g_X10_set F 48 x2 7 x4 σ104) (fun r105 σ106 => if 0 ≤ mw x4 ∧ mw x4 < (10 : Int) then mob (g_J7_fill_53178 F (37 + 1 + (mw x4).toNat) 41 (-1) σ106) (fun r108 σ109 => g_X9_followAll_h51 F w1 (g_X9_followAll_h10 F w1 n) F x2 x3 x4 0 σ109) else none)))
set_option maxRecDepth 100000 in
set_option maxHeartbeats 4000000 in
theorem w_X9_followAll_h10 {p : Program} {l : Launch} {e : Env} {s : State} {m : MethodId} {args : Array Value} {below : List Frame} {meth : Method} {c : Code} {D : va_G} {cy : Nat → ClassId} {ad : Nat → Nat} {bs : Nat} {F : Nat} {w1 : Nat} (X : mCx p m c cX9_followAll 6 s args RX9 meth D cy none) (hw1 : mWorld w1) {r : Int} {σ' : mMem}   (n : Nat) : ∀ {x2 x3 x4 : Int} {σ : mMem} {H : Heap} {locs : List Loc} {ls : Array Slot} (_ : mWd D cy ad bs true mN σ s.heap H locs) (_ : lv_has ls 6 [(0, .ref (ad 35)), (1, .ref (ad w1)), (2, .int (mI x2)), (3, .int (mI x3)), (4, .int (mI x4))]) (_ : g_X9_followAll_h10 F w1 n x2 x3 x4 σ = some (r, σ')), mGv p l e 6 s m args below meth c D cy ad bs σ' H locs (F0 m 10 ls []) := by
  obtain ⟨⟨hx, hb, -, -, -⟩, -⟩ := id X
  induction n with
  | zero =>
    intro x2 x3 x4 σ H locs ls hw hl hf
    unfold g_X9_followAll_h10 at hf
    cases hf
  | succ n ih =>
    have hk10 : ∀ (x2 x3 x4 : Int) (σ : mMem) (H : Heap) (locs : List Loc) (ls : Array Slot), mWd D cy ad bs true mN σ s.heap H locs → lv_has ls 6 [(0, .ref (ad 35)), (1, .ref (ad w1)), (2, .int (mI x2)), (3, .int (mI x3)), (4, .int (mI x4))] → g_X9_followAll_h10 F w1 n x2 x3 x4 σ = some (r, σ') → mGv p l e 6 s m args below meth c D cy ad bs σ' H locs (F0 m 10 ls []) := fun x2 x3 x4 σ H locs ls hw hl hf => ih hw hl hf
    intro x2 x3 x4 σ H locs ls hw hl hf
    unfold g_X9_followAll_h10 at hf
    refine lv_iload hx hb dX9_followAll_10 (lv_at hl 4 rfl) ?_
    refine lv_bipush (v := mI 10) hx hb dX9_followAll_12 (by decide) ?_
    refine r_icmp_ge (tgt := 105) X dX9_followAll_14 (by decide) hf (fun hc hf => ?_) (fun hc hf => ?_)
    · exact r_vret X hw dX9_followAll_105 hf
    · refine lv_aload_n hx hb dX9_followAll_17 rfl (lv_at hl 0 rfl) ?_
      refine r_getr 48 X hw sh_35 fd_9_0 rfl rfl lf_X9_25 dX9_followAll_18 ?_
      refine lv_aload_n hx hb dX9_followAll_21 rfl (lv_at hl 1 rfl) ?_
      refine r_cvv (rest := []) [.ref (ad w1)] X hw (fun ra σa h => c_X10_copyFrom l D cy ad bs F 48 w1 σ ra σa sh_w48 hw1 h) sh_48 rfl (by decide) rfl km_X10_copyFrom kv_X10_copyFrom lm_X9_67 dX9_followAll_22 hl.1 rfl rfl (Nat.le_of_ble_eq_true rfl) ⟨by decide, by decide⟩ ⟨Nat.zero_le _, Nat.zero_le _⟩ hf (fun r103 σ104 _ hf H locs hw => ?_)
      refine lv_aload_n hx hb dX9_followAll_25 rfl (lv_at hl 0 rfl) ?_
      refine r_getr 48 X hw sh_35 fd_9_0 rfl rfl lf_X9_25 dX9_followAll_26 ?_
      refine lv_iload_n hx hb dX9_followAll_29 rfl (lv_at hl 2 rfl) ?_
      refine lv_bipush (v := mI 7) hx hb dX9_followAll_30 (by decide) ?_
      refine lv_iload hx hb dX9_followAll_32 (lv_at hl 4 rfl) ?_
      refine r_cvv (rest := []) [.int (mI x2), .int (mI 7), .int (mI x4)] X hw (fun ra σa h => c_X10_set l D cy ad bs F 48 x2 7 x4 σ104 ra σa sh_w48 h) sh_48 rfl (by decide) rfl km_X10_set kv_X10_set lm_X9_71 dX9_followAll_34 hl.1 rfl rfl (Nat.le_of_ble_eq_true rfl) ⟨by decide, by decide⟩ ⟨Nat.zero_le _, Nat.zero_le _⟩ hf (fun r105 σ106 _ hf H locs hw => ?_)
      refine lv_aload_n hx hb dX9_followAll_37 rfl (lv_at hl 0 rfl) ?_
      refine r_getr 37 X hw sh_35 fd_9_2 rfl rfl lf_X9_19 dX9_followAll_38 ?_
      refine lv_iload hx hb dX9_followAll_41 (lv_at hl 4 rfl) ?_
      refine r_aald (10 : Int) rfl X hw sh_37 dX9_followAll_43 hf (fun hj107 hf => ?_)
      refine lv_iconst (v := mI (-1)) hx hb dX9_followAll_44 rfl ?_
      refine r_csv (rest := []) [.ref (ad (37 + 1 + (mw x4).toNat)), .int (mI (-1))] X hw (fun ra σa h => c_J7_fill_53178 l D cy ad bs F (37 + 1 + (mw x4).toNat) 41 (-1) σ106 ra σa (sh_r37 _ hj107) h) km_J7_fill_53178 ks_J7_fill_53178 lm_X9_75 dX9_followAll_45 hl.1 rfl rfl (Nat.le_of_ble_eq_true rfl) ⟨by decide, by decide⟩ ⟨Nat.zero_le _, Nat.zero_le _⟩ hf (fun r108 σ109 _ hf H locs hw => ?_)
      refine lv_iconst (v := mI 0) hx hb dX9_followAll_48 rfl ?_
      refine lv_istore (lv' := [(5, .int (mI 0)), (0, .ref (ad 35)), (1, .ref (ad w1)), (2, .int (mI x2)), (3, .int (mI x3)), (4, .int (mI x4))]) hx hb dX9_followAll_49 hl (by decide) rfl (fun ls hl => ?_)
      exact w_X9_followAll_h51 X hw1 hk10 _ hw (lv_sub hl [1, 2, 3, 4, 5, 0] rfl) hf
def g_X9_followAll (F : Nat) (w1 : Nat) (x2 : Int) (σ : mMem) : mRs := mob (g_X10_comingSteps F w1 40 σ) (fun r1 σ2 => g_X9_followAll_h10 F w1 F x2 r1 0 σ2)
set_option maxRecDepth 100000 in
set_option maxHeartbeats 4000000 in
theorem c_X9_followAll (l : Launch) (D : va_G) (cy : Nat → ClassId) (ad : Nat → Nat) (bs : Nat) (F : Nat) (w1 : Nat) (x2 : Int) (σ : mMem) (r : Int) (σ' : mMem) (hw1 : mWorld w1) (hf : g_X9_followAll F w1 x2 σ = some (r, σ')) : mCv l D cy ad bs yX9_followAll cX9_followAll 6 none 6 [.ref (ad 35), .ref (ad w1), .int (mI x2)] σ σ' := by
  refine mCv.of (lv := [(0, .ref (ad 35)), (1, .ref (ad w1)), (2, .int (mI x2))]) km_X9_followAll.2.2.2.2.2 (Nat.le_of_ble_eq_true rfl) rfl (fun p e s m args below meth c H locs ls X hw hl => ?_)
  obtain ⟨⟨hx, hb, -, -, -⟩, -⟩ := id X
  unfold g_X9_followAll at hf
  refine lv_aload_n hx hb dX9_followAll_0 rfl (lv_at hl 1 rfl) ?_
  refine lv_bipush (v := mI 40) hx hb dX9_followAll_1 (by decide) ?_
  refine r_cvi (rest := []) [.int (mI 40)] X hw (fun ra σa h => c_X10_comingSteps l D cy ad bs F w1 40 σ ra σa hw1 h) hw1.1 rfl (by decide) rfl km_X10_comingSteps kv_X10_comingSteps lm_X9_60 dX9_followAll_3 hl.1 rfl rfl (Nat.le_of_ble_eq_true rfl) ⟨by decide, by decide⟩ ⟨Nat.zero_le _, Nat.zero_le _⟩ hf (fun r1 σ2 _ hf H locs hw => ?_)
  refine lv_istore_n (lv' := [(3, .int (mI r1)), (0, .ref (ad 35)), (1, .ref (ad w1)), (2, .int (mI x2))]) hx hb dX9_followAll_6 rfl hl (by decide) rfl (fun ls hl => ?_)
  refine lv_iconst (v := mI 0) hx hb dX9_followAll_7 rfl ?_
  refine lv_istore (lv' := [(4, .int (mI 0)), (3, .int (mI r1)), (0, .ref (ad 35)), (1, .ref (ad w1)), (2, .int (mI x2))]) hx hb dX9_followAll_8 hl (by decide) rfl (fun ls hl => ?_)
  exact w_X9_followAll_h10 X hw1 _ hw (lv_sub hl [2, 3, 4, 1, 0] rfl) hf
def g_X9_biasBits (F : Nat) (w1 : Nat) (x2 : Int) (σ : mMem) : mRs := mob (g_X9_followAll F w1 x2 σ) (fun r1 σ2 => mob (g_X9_bitsLeft F σ2) (fun r3 σ4 => some (r3, σ4)))
set_option maxRecDepth 100000 in
set_option maxHeartbeats 4000000 in
theorem c_X9_biasBits (l : Launch) (D : va_G) (cy : Nat → ClassId) (ad : Nat → Nat) (bs : Nat) (F : Nat) (w1 : Nat) (x2 : Int) (σ : mMem) (r : Int) (σ' : mMem) (hw1 : mWorld w1) (hf : g_X9_biasBits F w1 x2 σ = some (r, σ')) : mCi l D cy ad bs yX9_biasBits cX9_biasBits 3 (some .int) 7 [.ref (ad 35), .ref (ad w1), .int (mI x2)] σ r σ' := by
  refine mCi.of (lv := [(0, .ref (ad 35)), (1, .ref (ad w1)), (2, .int (mI x2))]) km_X9_biasBits.2.2.2.2.2 (Nat.le_of_ble_eq_true rfl) rfl (fun p e s m args below meth c H locs ls X hw hl => ?_)
  obtain ⟨⟨hx, hb, -, -, -⟩, -⟩ := id X
  unfold g_X9_biasBits at hf
  refine lv_aload_n hx hb dX9_biasBits_0 rfl (lv_at hl 0 rfl) ?_
  refine lv_aload_n hx hb dX9_biasBits_1 rfl (lv_at hl 1 rfl) ?_
  refine lv_iload_n hx hb dX9_biasBits_2 rfl (lv_at hl 2 rfl) ?_
  refine r_cvv (rest := []) [.ref (ad w1), .int (mI x2)] X hw (fun ra σa h => c_X9_followAll l D cy ad bs F w1 x2 σ ra σa hw1 h) sh_35 rfl (by decide) rfl km_X9_followAll kv_X9_followAll lm_X9_48 dX9_biasBits_3 hl.1 rfl rfl (Nat.le_of_ble_eq_true rfl) ⟨by decide, by decide⟩ ⟨Nat.zero_le _, Nat.zero_le _⟩ hf (fun r1 σ2 _ hf H locs hw => ?_)
  refine lv_aload_n hx hb dX9_biasBits_6 rfl (lv_at hl 0 rfl) ?_
  refine r_cvi (rest := []) [] X hw (fun ra σa h => c_X9_bitsLeft l D cy ad bs F σ2 ra σa  h) sh_35 rfl (by decide) rfl km_X9_bitsLeft kv_X9_bitsLeft lm_X9_52 dX9_biasBits_7 hl.1 rfl rfl (Nat.le_of_ble_eq_true rfl) ⟨by decide, by decide⟩ ⟨Nat.zero_le _, Nat.zero_le _⟩ hf (fun r3 σ4 _ hf H locs hw => ?_)
  exact r_iret X hw dX9_biasBits_10 hf
def g_X9_mostLeft_b112 (F : Nat)  (x3 : Int) (σ : mMem) : mRs := some (x3, σ)
set_option maxRecDepth 100000 in
set_option maxHeartbeats 4000000 in
theorem w_X9_mostLeft_b112 {p : Program} {l : Launch} {e : Env} {s : State} {m : MethodId} {args : Array Value} {below : List Frame} {meth : Method} {c : Code} {D : va_G} {cy : Nat → ClassId} {ad : Nat → Nat} {bs : Nat} {F : Nat}  (X : mCx p m c cX9_mostLeft 8 s args RX9 meth D cy (some .int))  {r : Int} {σ' : mMem}   {x3 : Int} {σ : mMem} {H : Heap} {locs : List Loc} {ls : Array Slot} (hw : mWd D cy ad bs true mN σ s.heap H locs) (hl : lv_has ls 8 [(0, .ref (ad 35)), (3, .int (mI x3))]) (hf : g_X9_mostLeft_b112 F x3 σ = some (r, σ')) : mGi p l e 2 s m args below meth c D cy ad bs r σ' H locs (F0 m 112 ls []) := by
  obtain ⟨⟨hx, hb, -, -, -⟩, -⟩ := id X
  unfold g_X9_mostLeft_b112 at hf
  refine lv_iload_n hx hb dX9_mostLeft_112 rfl (lv_at hl 1 rfl) ?_
  exact r_iret X hw dX9_mostLeft_113 hf
def g_X9_mostLeft_b90 (F : Nat) (k5 : Int → Int → Int → Int → mMem → mRs) (k28 : Int → Int → Int → Int → Int → Int → mMem → mRs) (x1 x2 x3 x4 x6 t0 t1 : Int) (σ : mMem) : mRs := mlet (t0 + t1) (fun y505 => k28 x1 x2 x3 x4 y505 (x6 + 1) σ)
set_option maxRecDepth 100000 in
set_option maxHeartbeats 4000000 in
theorem w_X9_mostLeft_b90 {p : Program} {l : Launch} {e : Env} {s : State} {m : MethodId} {args : Array Value} {below : List Frame} {meth : Method} {c : Code} {D : va_G} {cy : Nat → ClassId} {ad : Nat → Nat} {bs : Nat} {F : Nat}  (X : mCx p m c cX9_mostLeft 8 s args RX9 meth D cy (some .int))  {r : Int} {σ' : mMem} {k5 : Int → Int → Int → Int → mMem → mRs} {k28 : Int → Int → Int → Int → Int → Int → mMem → mRs} (hk5 : ∀ (x1 x2 x3 x4 : Int) (σ : mMem) (H : Heap) (locs : List Loc) (ls : Array Slot), mWd D cy ad bs true mN σ s.heap H locs → lv_has ls 8 [(0, .ref (ad 35)), (1, .int (mI x1)), (2, .int (mI x2)), (3, .int (mI x3)), (4, .int (mI x4))] → k5 x1 x2 x3 x4 σ = some (r, σ') → mGi p l e 2 s m args below meth c D cy ad bs r σ' H locs (F0 m 5 ls [])) (hk28 : ∀ (x1 x2 x3 x4 x5 x6 : Int) (σ : mMem) (H : Heap) (locs : List Loc) (ls : Array Slot), mWd D cy ad bs true mN σ s.heap H locs → lv_has ls 8 [(0, .ref (ad 35)), (1, .int (mI x1)), (2, .int (mI x2)), (3, .int (mI x3)), (4, .int (mI x4)), (5, .int (mI x5)), (6, .int (mI x6))] → k28 x1 x2 x3 x4 x5 x6 σ = some (r, σ') → mGi p l e 2 s m args below meth c D cy ad bs r σ' H locs (F0 m 28 ls [])) {x1 x2 x3 x4 x6 t0 t1 : Int} {σ : mMem} {H : Heap} {locs : List Loc} {ls : Array Slot} (hw : mWd D cy ad bs true mN σ s.heap H locs) (hl : lv_has ls 8 [(0, .ref (ad 35)), (1, .int (mI x1)), (2, .int (mI x2)), (3, .int (mI x3)), (4, .int (mI x4)), (6, .int (mI x6))]) (hf : g_X9_mostLeft_b90 F k5 k28 x1 x2 x3 x4 x6 t0 t1 σ = some (r, σ')) : mGi p l e 2 s m args below meth c D cy ad bs r σ' H locs (F0 m 90 ls [.int (mI t1), .int (mI t0)]) := by
  obtain ⟨⟨hx, hb, -, -, -⟩, -⟩ := id X
  unfold g_X9_mostLeft_b90 at hf
  refine r_iadd X dX9_mostLeft_90 ?_
  refine r_leti hf (fun y505 hf => ?_)
  refine lv_istore (lv' := [(5, .int (mI y505)), (0, .ref (ad 35)), (1, .int (mI x1)), (2, .int (mI x2)), (3, .int (mI x3)), (4, .int (mI x4)), (6, .int (mI x6))]) hx hb dX9_mostLeft_91 hl (by decide) rfl (fun ls hl => ?_)
  refine lv_iinc (v := mI (x6 + 1)) (lv' := [(6, .int (mI (x6 + 1))), (5, .int (mI y505)), (0, .ref (ad 35)), (1, .int (mI x1)), (2, .int (mI x2)), (3, .int (mI x3)), (4, .int (mI x4))]) hx hb dX9_mostLeft_93 hl (k := 6) rfl (mI_add _ _) (by decide) rfl (fun ls hl => ?_)
  refine lv_goto (tgt := 28) hx hb dX9_mostLeft_96 (by decide) ?_
  exact hk28 x1 x2 x3 x4 y505 (x6 + 1) σ _ _ _ hw (lv_sub hl [2, 3, 4, 5, 6, 1, 0] rfl) hf
def g_X9_mostLeft_b89 (F : Nat) (k5 : Int → Int → Int → Int → mMem → mRs) (k28 : Int → Int → Int → Int → Int → Int → mMem → mRs) (x1 x2 x3 x4 x6 t0 : Int) (σ : mMem) : mRs := g_X9_mostLeft_b90 F k5 k28 x1 x2 x3 x4 x6 t0 0 σ
set_option maxRecDepth 100000 in
set_option maxHeartbeats 4000000 in
theorem w_X9_mostLeft_b89 {p : Program} {l : Launch} {e : Env} {s : State} {m : MethodId} {args : Array Value} {below : List Frame} {meth : Method} {c : Code} {D : va_G} {cy : Nat → ClassId} {ad : Nat → Nat} {bs : Nat} {F : Nat}  (X : mCx p m c cX9_mostLeft 8 s args RX9 meth D cy (some .int))  {r : Int} {σ' : mMem} {k5 : Int → Int → Int → Int → mMem → mRs} {k28 : Int → Int → Int → Int → Int → Int → mMem → mRs} (hk5 : ∀ (x1 x2 x3 x4 : Int) (σ : mMem) (H : Heap) (locs : List Loc) (ls : Array Slot), mWd D cy ad bs true mN σ s.heap H locs → lv_has ls 8 [(0, .ref (ad 35)), (1, .int (mI x1)), (2, .int (mI x2)), (3, .int (mI x3)), (4, .int (mI x4))] → k5 x1 x2 x3 x4 σ = some (r, σ') → mGi p l e 2 s m args below meth c D cy ad bs r σ' H locs (F0 m 5 ls [])) (hk28 : ∀ (x1 x2 x3 x4 x5 x6 : Int) (σ : mMem) (H : Heap) (locs : List Loc) (ls : Array Slot), mWd D cy ad bs true mN σ s.heap H locs → lv_has ls 8 [(0, .ref (ad 35)), (1, .int (mI x1)), (2, .int (mI x2)), (3, .int (mI x3)), (4, .int (mI x4)), (5, .int (mI x5)), (6, .int (mI x6))] → k28 x1 x2 x3 x4 x5 x6 σ = some (r, σ') → mGi p l e 2 s m args below meth c D cy ad bs r σ' H locs (F0 m 28 ls [])) {x1 x2 x3 x4 x6 t0 : Int} {σ : mMem} {H : Heap} {locs : List Loc} {ls : Array Slot} (hw : mWd D cy ad bs true mN σ s.heap H locs) (hl : lv_has ls 8 [(0, .ref (ad 35)), (1, .int (mI x1)), (2, .int (mI x2)), (3, .int (mI x3)), (4, .int (mI x4)), (6, .int (mI x6))]) (hf : g_X9_mostLeft_b89 F k5 k28 x1 x2 x3 x4 x6 t0 σ = some (r, σ')) : mGi p l e 2 s m args below meth c D cy ad bs r σ' H locs (F0 m 89 ls [.int (mI t0)]) := by
  obtain ⟨⟨hx, hb, -, -, -⟩, -⟩ := id X
  unfold g_X9_mostLeft_b89 at hf
  refine lv_iconst (v := mI 0) hx hb dX9_mostLeft_89 rfl ?_
  exact w_X9_mostLeft_b90 X hk5 hk28 hw (lv_sub hl [0, 1, 2, 3, 4, 5] rfl) hf
def g_X9_mostLeft_b55 (F : Nat) (k5 : Int → Int → Int → Int → mMem → mRs) (k28 : Int → Int → Int → Int → Int → Int → mMem → mRs) (x1 x2 x3 x4 x5 x6 t0 : Int) (σ : mMem) : mRs := if mw t0 = 0 then (g_X9_mostLeft_b89 F k5 k28 x1 x2 x3 x4 x6 x5 σ) else (if 0 ≤ mw x4 ∧ mw x4 < (10 : Int) then if 0 ≤ mw x2 ∧ mw x2 < (41 : Int) then if 0 ≤ mw x6 ∧ mw x6 < (10 : Int) then if 0 ≤ mw x2 ∧ mw x2 < (41 : Int) then if ¬ mw (σ (37 + 1 + (mw x4).toNat) (mw x2).toNat) = mw (σ (37 + 1 + (mw x6).toNat) (mw x2).toNat) then (g_X9_mostLeft_b89 F k5 k28 x1 x2 x3 x4 x6 x5 σ) else (g_X9_mostLeft_b90 F k5 k28 x1 x2 x3 x4 x6 x5 1 σ) else none else none else none else none)
set_option maxRecDepth 100000 in
set_option maxHeartbeats 4000000 in
theorem w_X9_mostLeft_b55 {p : Program} {l : Launch} {e : Env} {s : State} {m : MethodId} {args : Array Value} {below : List Frame} {meth : Method} {c : Code} {D : va_G} {cy : Nat → ClassId} {ad : Nat → Nat} {bs : Nat} {F : Nat}  (X : mCx p m c cX9_mostLeft 8 s args RX9 meth D cy (some .int))  {r : Int} {σ' : mMem} {k5 : Int → Int → Int → Int → mMem → mRs} {k28 : Int → Int → Int → Int → Int → Int → mMem → mRs} (hk5 : ∀ (x1 x2 x3 x4 : Int) (σ : mMem) (H : Heap) (locs : List Loc) (ls : Array Slot), mWd D cy ad bs true mN σ s.heap H locs → lv_has ls 8 [(0, .ref (ad 35)), (1, .int (mI x1)), (2, .int (mI x2)), (3, .int (mI x3)), (4, .int (mI x4))] → k5 x1 x2 x3 x4 σ = some (r, σ') → mGi p l e 2 s m args below meth c D cy ad bs r σ' H locs (F0 m 5 ls [])) (hk28 : ∀ (x1 x2 x3 x4 x5 x6 : Int) (σ : mMem) (H : Heap) (locs : List Loc) (ls : Array Slot), mWd D cy ad bs true mN σ s.heap H locs → lv_has ls 8 [(0, .ref (ad 35)), (1, .int (mI x1)), (2, .int (mI x2)), (3, .int (mI x3)), (4, .int (mI x4)), (5, .int (mI x5)), (6, .int (mI x6))] → k28 x1 x2 x3 x4 x5 x6 σ = some (r, σ') → mGi p l e 2 s m args below meth c D cy ad bs r σ' H locs (F0 m 28 ls [])) {x1 x2 x3 x4 x5 x6 t0 : Int} {σ : mMem} {H : Heap} {locs : List Loc} {ls : Array Slot} (hw : mWd D cy ad bs true mN σ s.heap H locs) (hl : lv_has ls 8 [(0, .ref (ad 35)), (1, .int (mI x1)), (2, .int (mI x2)), (3, .int (mI x3)), (4, .int (mI x4)), (5, .int (mI x5)), (6, .int (mI x6))]) (hf : g_X9_mostLeft_b55 F k5 k28 x1 x2 x3 x4 x5 x6 t0 σ = some (r, σ')) : mGi p l e 2 s m args below meth c D cy ad bs r σ' H locs (F0 m 55 ls [.int (mI t0)]) := by
  obtain ⟨⟨hx, hb, -, -, -⟩, -⟩ := id X
  unfold g_X9_mostLeft_b55 at hf
  refine lv_istore (lv' := [(7, .int (mI t0)), (0, .ref (ad 35)), (1, .int (mI x1)), (2, .int (mI x2)), (3, .int (mI x3)), (4, .int (mI x4)), (5, .int (mI x5)), (6, .int (mI x6))]) hx hb dX9_mostLeft_55 hl (by decide) rfl (fun ls hl => ?_)
  refine lv_iload hx hb dX9_mostLeft_57 (lv_at hl 6 rfl) ?_
  refine lv_iload hx hb dX9_mostLeft_59 (lv_at hl 0 rfl) ?_
  refine r_if_eq (tgt := 89) X dX9_mostLeft_61 (by decide) hf (fun hc hf => ?_) (fun hc hf => ?_)
  · exact w_X9_mostLeft_b89 X hk5 hk28 hw (lv_sub hl [1, 2, 3, 4, 5, 7] rfl) hf
  · refine lv_aload_n hx hb dX9_mostLeft_64 rfl (lv_at hl 1 rfl) ?_
    refine r_getr 37 X hw sh_35 fd_9_2 rfl rfl lf_X9_19 dX9_mostLeft_65 ?_
    refine lv_iload hx hb dX9_mostLeft_68 (lv_at hl 5 rfl) ?_
    refine r_aald (10 : Int) rfl X hw sh_37 dX9_mostLeft_70 hf (fun hj403 hf => ?_)
    refine lv_iload_n hx hb dX9_mostLeft_71 rfl (lv_at hl 3 rfl) ?_
    refine r_iald (41 : Int) rfl X hw (sh_r37 _ hj403) dX9_mostLeft_72 hf (fun hf => ?_)
    refine lv_aload_n hx hb dX9_mostLeft_73 rfl (lv_at hl 1 rfl) ?_
    refine r_getr 37 X hw sh_35 fd_9_2 rfl rfl lf_X9_19 dX9_mostLeft_74 ?_
    refine lv_iload hx hb dX9_mostLeft_77 (lv_at hl 7 rfl) ?_
    refine r_aald (10 : Int) rfl X hw sh_37 dX9_mostLeft_79 hf (fun hj404 hf => ?_)
    refine lv_iload_n hx hb dX9_mostLeft_80 rfl (lv_at hl 3 rfl) ?_
    refine r_iald (41 : Int) rfl X hw (sh_r37 _ hj404) dX9_mostLeft_81 hf (fun hf => ?_)
    refine r_icmp_ne (tgt := 89) X dX9_mostLeft_82 (by decide) hf (fun hc hf => ?_) (fun hc hf => ?_)
    · exact w_X9_mostLeft_b89 X hk5 hk28 hw (lv_sub hl [1, 2, 3, 4, 5, 7] rfl) hf
    · refine lv_iconst (v := mI 1) hx hb dX9_mostLeft_85 rfl ?_
      refine lv_goto (tgt := 90) hx hb dX9_mostLeft_86 (by decide) ?_
      exact w_X9_mostLeft_b90 X hk5 hk28 hw (lv_sub hl [1, 2, 3, 4, 5, 7] rfl) hf
def g_X9_mostLeft_h28 (F : Nat) (k5 : Int → Int → Int → Int → mMem → mRs) : Nat → Int → Int → Int → Int → Int → Int → mMem → mRs
  | 0, _, _, _, _, _, _, _ => none
  | n + 1, x1, x2, x3, x4, x5, x6, σ => if mw 10 ≤ mw x6 then (mob (g_J9_max_7cf53 F x3 x5 σ) (fun r301 σ302 => k5 x1 x2 r301 (x4 + 1) σ302)) else (if ¬ mw (mand (mand (mshr x1 x4) (mshr x1 x6)) 1) = mw 1 then (g_X9_mostLeft_b55 F k5 (g_X9_mostLeft_h28 F k5 n) x1 x2 x3 x4 x5 x6 0 σ) else (g_X9_mostLeft_b55 F k5 (g_X9_mostLeft_h28 F k5 n) x1 x2 x3 x4 x5 x6 1 σ))
set_option maxRecDepth 100000 in
set_option maxHeartbeats 4000000 in
theorem w_X9_mostLeft_h28 {p : Program} {l : Launch} {e : Env} {s : State} {m : MethodId} {args : Array Value} {below : List Frame} {meth : Method} {c : Code} {D : va_G} {cy : Nat → ClassId} {ad : Nat → Nat} {bs : Nat} {F : Nat}  (X : mCx p m c cX9_mostLeft 8 s args RX9 meth D cy (some .int))  {r : Int} {σ' : mMem} {k5 : Int → Int → Int → Int → mMem → mRs} (hk5 : ∀ (x1 x2 x3 x4 : Int) (σ : mMem) (H : Heap) (locs : List Loc) (ls : Array Slot), mWd D cy ad bs true mN σ s.heap H locs → lv_has ls 8 [(0, .ref (ad 35)), (1, .int (mI x1)), (2, .int (mI x2)), (3, .int (mI x3)), (4, .int (mI x4))] → k5 x1 x2 x3 x4 σ = some (r, σ') → mGi p l e 2 s m args below meth c D cy ad bs r σ' H locs (F0 m 5 ls [])) (n : Nat) : ∀ {x1 x2 x3 x4 x5 x6 : Int} {σ : mMem} {H : Heap} {locs : List Loc} {ls : Array Slot} (_ : mWd D cy ad bs true mN σ s.heap H locs) (_ : lv_has ls 8 [(0, .ref (ad 35)), (1, .int (mI x1)), (2, .int (mI x2)), (3, .int (mI x3)), (4, .int (mI x4)), (5, .int (mI x5)), (6, .int (mI x6))]) (_ : g_X9_mostLeft_h28 F k5 n x1 x2 x3 x4 x5 x6 σ = some (r, σ')), mGi p l e 2 s m args below meth c D cy ad bs r σ' H locs (F0 m 28 ls []) := by
  obtain ⟨⟨hx, hb, -, -, -⟩, -⟩ := id X
  induction n with
  | zero =>
    intro x1 x2 x3 x4 x5 x6 σ H locs ls hw hl hf
    unfold g_X9_mostLeft_h28 at hf
    cases hf
  | succ n ih =>
    have hk28 : ∀ (x1 x2 x3 x4 x5 x6 : Int) (σ : mMem) (H : Heap) (locs : List Loc) (ls : Array Slot), mWd D cy ad bs true mN σ s.heap H locs → lv_has ls 8 [(0, .ref (ad 35)), (1, .int (mI x1)), (2, .int (mI x2)), (3, .int (mI x3)), (4, .int (mI x4)), (5, .int (mI x5)), (6, .int (mI x6))] → g_X9_mostLeft_h28 F k5 n x1 x2 x3 x4 x5 x6 σ = some (r, σ') → mGi p l e 2 s m args below meth c D cy ad bs r σ' H locs (F0 m 28 ls []) := fun x1 x2 x3 x4 x5 x6 σ H locs ls hw hl hf => ih hw hl hf
    intro x1 x2 x3 x4 x5 x6 σ H locs ls hw hl hf
    unfold g_X9_mostLeft_h28 at hf
    refine lv_iload hx hb dX9_mostLeft_28 (lv_at hl 6 rfl) ?_
    refine lv_bipush (v := mI 10) hx hb dX9_mostLeft_30 (by decide) ?_
    refine r_icmp_ge (tgt := 99) X dX9_mostLeft_32 (by decide) hf (fun hc hf => ?_) (fun hc hf => ?_)
    · refine lv_iload_n hx hb dX9_mostLeft_99 rfl (lv_at hl 3 rfl) ?_
      refine lv_iload hx hb dX9_mostLeft_100 (lv_at hl 5 rfl) ?_
      refine r_csi (rest := []) [.int (mI x3), .int (mI x5)] X hw (fun ra σa h => c_J9_max_7cf53 l D cy ad bs F x3 x5 σ ra σa  h) km_J9_max_7cf53 ks_J9_max_7cf53 lm_X9_91 dX9_mostLeft_102 hl.1 rfl rfl (Nat.le_of_ble_eq_true rfl) ⟨by decide, by decide⟩ ⟨Nat.zero_le _, Nat.zero_le _⟩ hf (fun r301 σ302 _ hf H locs hw => ?_)
      refine lv_istore_n (lv' := [(3, .int (mI r301)), (0, .ref (ad 35)), (1, .int (mI x1)), (2, .int (mI x2)), (4, .int (mI x4)), (5, .int (mI x5)), (6, .int (mI x6))]) hx hb dX9_mostLeft_105 rfl hl (by decide) rfl (fun ls hl => ?_)
      refine lv_iinc (v := mI (x4 + 1)) (lv' := [(4, .int (mI (x4 + 1))), (3, .int (mI r301)), (0, .ref (ad 35)), (1, .int (mI x1)), (2, .int (mI x2)), (5, .int (mI x5)), (6, .int (mI x6))]) hx hb dX9_mostLeft_106 hl (k := 4) rfl (mI_add _ _) (by decide) rfl (fun ls hl => ?_)
      refine lv_goto (tgt := 5) hx hb dX9_mostLeft_109 (by decide) ?_
      exact hk5 x1 x2 r301 (x4 + 1) σ302 _ _ _ hw (lv_sub hl [2, 3, 4, 1, 0] rfl) hf
    · refine lv_iload_n hx hb dX9_mostLeft_35 rfl (lv_at hl 1 rfl) ?_
      refine lv_iload hx hb dX9_mostLeft_36 (lv_at hl 4 rfl) ?_
      refine r_ishr X dX9_mostLeft_38 ?_
      refine lv_iload_n hx hb dX9_mostLeft_39 rfl (lv_at hl 1 rfl) ?_
      refine lv_iload hx hb dX9_mostLeft_40 (lv_at hl 6 rfl) ?_
      refine r_ishr X dX9_mostLeft_42 ?_
      refine r_iand X dX9_mostLeft_43 ?_
      refine lv_iconst (v := mI 1) hx hb dX9_mostLeft_44 rfl ?_
      refine r_iand X dX9_mostLeft_45 ?_
      refine lv_iconst (v := mI 1) hx hb dX9_mostLeft_46 rfl ?_
      refine r_icmp_ne (tgt := 54) X dX9_mostLeft_47 (by decide) hf (fun hc hf => ?_) (fun hc hf => ?_)
      · refine lv_iconst (v := mI 0) hx hb dX9_mostLeft_54 rfl ?_
        exact w_X9_mostLeft_b55 X hk5 hk28 hw (lv_sub hl [0, 1, 2, 3, 4, 5, 6] rfl) hf
      · refine lv_iconst (v := mI 1) hx hb dX9_mostLeft_50 rfl ?_
        refine lv_goto (tgt := 55) hx hb dX9_mostLeft_51 (by decide) ?_
        exact w_X9_mostLeft_b55 X hk5 hk28 hw (lv_sub hl [0, 1, 2, 3, 4, 5, 6] rfl) hf
def g_X9_mostLeft_h5 (F : Nat)  : Nat → Int → Int → Int → Int → mMem → mRs
  | 0, _, _, _, _, _ => none
  | n + 1, x1, x2, x3, x4, σ => if mw 10 ≤ mw x4 then (g_X9_mostLeft_b112 F x3 σ) else (if mw x2 < 0 then (g_X9_mostLeft_b112 F x3 σ) else (if mw 40 < mw x2 then (g_X9_mostLeft_b112 F x3 σ) else (g_X9_mostLeft_h28 F (g_X9_mostLeft_h5 F n) F x1 x2 x3 x4 0 0 σ)))
set_option maxRecDepth 100000 in
set_option maxHeartbeats 4000000 in
theorem w_X9_mostLeft_h5 {p : Program} {l : Launch} {e : Env} {s : State} {m : MethodId} {args : Array Value} {below : List Frame} {meth : Method} {c : Code} {D : va_G} {cy : Nat → ClassId} {ad : Nat → Nat} {bs : Nat} {F : Nat}  (X : mCx p m c cX9_mostLeft 8 s args RX9 meth D cy (some .int))  {r : Int} {σ' : mMem}   (n : Nat) : ∀ {x1 x2 x3 x4 : Int} {σ : mMem} {H : Heap} {locs : List Loc} {ls : Array Slot} (_ : mWd D cy ad bs true mN σ s.heap H locs) (_ : lv_has ls 8 [(0, .ref (ad 35)), (1, .int (mI x1)), (2, .int (mI x2)), (3, .int (mI x3)), (4, .int (mI x4))]) (_ : g_X9_mostLeft_h5 F n x1 x2 x3 x4 σ = some (r, σ')), mGi p l e 2 s m args below meth c D cy ad bs r σ' H locs (F0 m 5 ls []) := by
  obtain ⟨⟨hx, hb, -, -, -⟩, -⟩ := id X
  induction n with
  | zero =>
    intro x1 x2 x3 x4 σ H locs ls hw hl hf
    unfold g_X9_mostLeft_h5 at hf
    cases hf
  | succ n ih =>
    have hk5 : ∀ (x1 x2 x3 x4 : Int) (σ : mMem) (H : Heap) (locs : List Loc) (ls : Array Slot), mWd D cy ad bs true mN σ s.heap H locs → lv_has ls 8 [(0, .ref (ad 35)), (1, .int (mI x1)), (2, .int (mI x2)), (3, .int (mI x3)), (4, .int (mI x4))] → g_X9_mostLeft_h5 F n x1 x2 x3 x4 σ = some (r, σ') → mGi p l e 2 s m args below meth c D cy ad bs r σ' H locs (F0 m 5 ls []) := fun x1 x2 x3 x4 σ H locs ls hw hl hf => ih hw hl hf
    intro x1 x2 x3 x4 σ H locs ls hw hl hf
    unfold g_X9_mostLeft_h5 at hf
    refine lv_iload hx hb dX9_mostLeft_5 (lv_at hl 4 rfl) ?_
    refine lv_bipush (v := mI 10) hx hb dX9_mostLeft_7 (by decide) ?_
    refine r_icmp_ge (tgt := 112) X dX9_mostLeft_9 (by decide) hf (fun hc hf => ?_) (fun hc hf => ?_)
    · exact w_X9_mostLeft_b112 X hw (lv_sub hl [0, 3] rfl) hf
    · refine lv_iload_n hx hb dX9_mostLeft_12 rfl (lv_at hl 2 rfl) ?_
      refine r_if_lt (tgt := 112) X dX9_mostLeft_13 (by decide) hf (fun hc hf => ?_) (fun hc hf => ?_)
      · exact w_X9_mostLeft_b112 X hw (lv_sub hl [0, 3] rfl) hf
      · refine lv_iload_n hx hb dX9_mostLeft_16 rfl (lv_at hl 2 rfl) ?_
        refine lv_bipush (v := mI 40) hx hb dX9_mostLeft_17 (by decide) ?_
        refine r_icmp_gt (tgt := 112) X dX9_mostLeft_19 (by decide) hf (fun hc hf => ?_) (fun hc hf => ?_)
        · exact w_X9_mostLeft_b112 X hw (lv_sub hl [0, 3] rfl) hf
        · refine lv_iconst (v := mI 0) hx hb dX9_mostLeft_22 rfl ?_
          refine lv_istore (lv' := [(5, .int (mI 0)), (0, .ref (ad 35)), (1, .int (mI x1)), (2, .int (mI x2)), (3, .int (mI x3)), (4, .int (mI x4))]) hx hb dX9_mostLeft_23 hl (by decide) rfl (fun ls hl => ?_)
          refine lv_iconst (v := mI 0) hx hb dX9_mostLeft_25 rfl ?_
          refine lv_istore (lv' := [(6, .int (mI 0)), (5, .int (mI 0)), (0, .ref (ad 35)), (1, .int (mI x1)), (2, .int (mI x2)), (3, .int (mI x3)), (4, .int (mI x4))]) hx hb dX9_mostLeft_26 hl (by decide) rfl (fun ls hl => ?_)
          exact w_X9_mostLeft_h28 X hk5 _ hw (lv_sub hl [2, 3, 4, 5, 6, 1, 0] rfl) hf
def g_X9_mostLeft (F : Nat) (x1 x2 : Int) (σ : mMem) : mRs := g_X9_mostLeft_h5 F F x1 x2 0 0 σ
set_option maxRecDepth 100000 in
set_option maxHeartbeats 4000000 in
theorem c_X9_mostLeft (l : Launch) (D : va_G) (cy : Nat → ClassId) (ad : Nat → Nat) (bs : Nat) (F : Nat)  (x1 x2 : Int) (σ : mMem) (r : Int) (σ' : mMem)  (hf : g_X9_mostLeft F x1 x2 σ = some (r, σ')) : mCi l D cy ad bs yX9_mostLeft cX9_mostLeft 8 (some .int) 2 [.ref (ad 35), .int (mI x1), .int (mI x2)] σ r σ' := by
  refine mCi.of (lv := [(0, .ref (ad 35)), (1, .int (mI x1)), (2, .int (mI x2))]) km_X9_mostLeft.2.2.2.2.2 (Nat.le_of_ble_eq_true rfl) rfl (fun p e s m args below meth c H locs ls X hw hl => ?_)
  obtain ⟨⟨hx, hb, -, -, -⟩, -⟩ := id X
  unfold g_X9_mostLeft at hf
  refine lv_iconst (v := mI 0) hx hb dX9_mostLeft_0 rfl ?_
  refine lv_istore_n (lv' := [(3, .int (mI 0)), (0, .ref (ad 35)), (1, .int (mI x1)), (2, .int (mI x2))]) hx hb dX9_mostLeft_1 rfl hl (by decide) rfl (fun ls hl => ?_)
  refine lv_iconst (v := mI 0) hx hb dX9_mostLeft_2 rfl ?_
  refine lv_istore (lv' := [(4, .int (mI 0)), (3, .int (mI 0)), (0, .ref (ad 35)), (1, .int (mI x1)), (2, .int (mI x2))]) hx hb dX9_mostLeft_3 hl (by decide) rfl (fun ls hl => ?_)
  exact w_X9_mostLeft_h5 X _ hw (lv_sub hl [2, 3, 4, 1, 0] rfl) hf
def g_X9_tellingSteps_b70 (F : Nat) (w1 : Nat)  (x4 : Int) (σ : mMem) : mRs := some (x4, σ)
set_option maxRecDepth 100000 in
set_option maxHeartbeats 4000000 in
theorem w_X9_tellingSteps_b70 {p : Program} {l : Launch} {e : Env} {s : State} {m : MethodId} {args : Array Value} {below : List Frame} {meth : Method} {c : Code} {D : va_G} {cy : Nat → ClassId} {ad : Nat → Nat} {bs : Nat} {F : Nat} {w1 : Nat} (X : mCx p m c cX9_tellingSteps 9 s args RX9 meth D cy (some .int)) (hw1 : mWorld w1) {r : Int} {σ' : mMem}   {x4 : Int} {σ : mMem} {H : Heap} {locs : List Loc} {ls : Array Slot} (hw : mWd D cy ad bs true mN σ s.heap H locs) (hl : lv_has ls 9 [(0, .ref (ad 35)), (1, .ref (ad w1)), (4, .int (mI x4))]) (hf : g_X9_tellingSteps_b70 F w1 x4 σ = some (r, σ')) : mGi p l e 7 s m args below meth c D cy ad bs r σ' H locs (F0 m 70 ls []) := by
  obtain ⟨⟨hx, hb, -, -, -⟩, -⟩ := id X
  unfold g_X9_tellingSteps_b70 at hf
  refine lv_iload hx hb dX9_tellingSteps_70 (lv_at hl 2 rfl) ?_
  exact r_iret X hw dX9_tellingSteps_72 hf
def g_X9_tellingSteps_b64 (F : Nat) (w1 : Nat) (k29 : Int → Int → Int → Int → Int → mMem → mRs) (x3 x4 x5 x6 x7 : Int) (σ : mMem) : mRs := k29 x3 x4 x5 x6 (x7 + 1) σ
set_option maxRecDepth 100000 in
set_option maxHeartbeats 4000000 in
theorem w_X9_tellingSteps_b64 {p : Program} {l : Launch} {e : Env} {s : State} {m : MethodId} {args : Array Value} {below : List Frame} {meth : Method} {c : Code} {D : va_G} {cy : Nat → ClassId} {ad : Nat → Nat} {bs : Nat} {F : Nat} {w1 : Nat} (X : mCx p m c cX9_tellingSteps 9 s args RX9 meth D cy (some .int)) (hw1 : mWorld w1) {r : Int} {σ' : mMem} {k29 : Int → Int → Int → Int → Int → mMem → mRs} (hk29 : ∀ (x3 x4 x5 x6 x7 : Int) (σ : mMem) (H : Heap) (locs : List Loc) (ls : Array Slot), mWd D cy ad bs true mN σ s.heap H locs → lv_has ls 9 [(0, .ref (ad 35)), (1, .ref (ad w1)), (3, .int (mI x3)), (4, .int (mI x4)), (5, .int (mI x5)), (6, .int (mI x6)), (7, .int (mI x7))] → k29 x3 x4 x5 x6 x7 σ = some (r, σ') → mGi p l e 7 s m args below meth c D cy ad bs r σ' H locs (F0 m 29 ls [])) {x3 x4 x5 x6 x7 : Int} {σ : mMem} {H : Heap} {locs : List Loc} {ls : Array Slot} (hw : mWd D cy ad bs true mN σ s.heap H locs) (hl : lv_has ls 9 [(0, .ref (ad 35)), (1, .ref (ad w1)), (3, .int (mI x3)), (4, .int (mI x4)), (5, .int (mI x5)), (6, .int (mI x6)), (7, .int (mI x7))]) (hf : g_X9_tellingSteps_b64 F w1 k29 x3 x4 x5 x6 x7 σ = some (r, σ')) : mGi p l e 7 s m args below meth c D cy ad bs r σ' H locs (F0 m 64 ls []) := by
  obtain ⟨⟨hx, hb, -, -, -⟩, -⟩ := id X
  unfold g_X9_tellingSteps_b64 at hf
  refine lv_iinc (v := mI (x7 + 1)) (lv' := [(7, .int (mI (x7 + 1))), (0, .ref (ad 35)), (1, .ref (ad w1)), (3, .int (mI x3)), (4, .int (mI x4)), (5, .int (mI x5)), (6, .int (mI x6))]) hx hb dX9_tellingSteps_64 hl (k := 6) rfl (mI_add _ _) (by decide) rfl (fun ls hl => ?_)
  refine lv_goto (tgt := 29) hx hb dX9_tellingSteps_67 (by decide) ?_
  exact hk29 x3 x4 x5 x6 (x7 + 1) σ _ _ _ hw (lv_sub hl [1, 2, 3, 4, 5, 6, 0] rfl) hf
def g_X9_tellingSteps_h29 (F : Nat) (w1 : Nat)  : Nat → Int → Int → Int → Int → Int → mMem → mRs
  | 0, _, _, _, _, _, _ => none
  | n + 1, x3, x4, x5, x6, x7, σ => if mw x3 = 0 then (g_X9_tellingSteps_b70 F w1 x4 σ) else (if mw x6 < mw x7 then (g_X9_tellingSteps_b70 F w1 x4 σ) else (mob (g_X9_mostLeft F x3 x7 σ) (fun r107 σ108 => if mw x5 ≤ mw r107 then (g_X9_tellingSteps_b64 F w1 (g_X9_tellingSteps_h29 F w1 n) x3 x4 x5 x6 x7 σ108) else (g_X9_tellingSteps_b64 F w1 (g_X9_tellingSteps_h29 F w1 n) x3 x7 r107 x6 x7 σ108))))
set_option maxRecDepth 100000 in
set_option maxHeartbeats 4000000 in
theorem w_X9_tellingSteps_h29 {p : Program} {l : Launch} {e : Env} {s : State} {m : MethodId} {args : Array Value} {below : List Frame} {meth : Method} {c : Code} {D : va_G} {cy : Nat → ClassId} {ad : Nat → Nat} {bs : Nat} {F : Nat} {w1 : Nat} (X : mCx p m c cX9_tellingSteps 9 s args RX9 meth D cy (some .int)) (hw1 : mWorld w1) {r : Int} {σ' : mMem}   (n : Nat) : ∀ {x3 x4 x5 x6 x7 : Int} {σ : mMem} {H : Heap} {locs : List Loc} {ls : Array Slot} (_ : mWd D cy ad bs true mN σ s.heap H locs) (_ : lv_has ls 9 [(0, .ref (ad 35)), (1, .ref (ad w1)), (3, .int (mI x3)), (4, .int (mI x4)), (5, .int (mI x5)), (6, .int (mI x6)), (7, .int (mI x7))]) (_ : g_X9_tellingSteps_h29 F w1 n x3 x4 x5 x6 x7 σ = some (r, σ')), mGi p l e 7 s m args below meth c D cy ad bs r σ' H locs (F0 m 29 ls []) := by
  obtain ⟨⟨hx, hb, -, -, -⟩, -⟩ := id X
  induction n with
  | zero =>
    intro x3 x4 x5 x6 x7 σ H locs ls hw hl hf
    unfold g_X9_tellingSteps_h29 at hf
    cases hf
  | succ n ih =>
    have hk29 : ∀ (x3 x4 x5 x6 x7 : Int) (σ : mMem) (H : Heap) (locs : List Loc) (ls : Array Slot), mWd D cy ad bs true mN σ s.heap H locs → lv_has ls 9 [(0, .ref (ad 35)), (1, .ref (ad w1)), (3, .int (mI x3)), (4, .int (mI x4)), (5, .int (mI x5)), (6, .int (mI x6)), (7, .int (mI x7))] → g_X9_tellingSteps_h29 F w1 n x3 x4 x5 x6 x7 σ = some (r, σ') → mGi p l e 7 s m args below meth c D cy ad bs r σ' H locs (F0 m 29 ls []) := fun x3 x4 x5 x6 x7 σ H locs ls hw hl hf => ih hw hl hf
    intro x3 x4 x5 x6 x7 σ H locs ls hw hl hf
    unfold g_X9_tellingSteps_h29 at hf
    refine lv_iload_n hx hb dX9_tellingSteps_29 rfl (lv_at hl 2 rfl) ?_
    refine r_if_eq (tgt := 70) X dX9_tellingSteps_30 (by decide) hf (fun hc hf => ?_) (fun hc hf => ?_)
    · exact w_X9_tellingSteps_b70 X hw1 hw (lv_sub hl [0, 1, 3] rfl) hf
    · refine lv_iload hx hb dX9_tellingSteps_33 (lv_at hl 6 rfl) ?_
      refine lv_iload hx hb dX9_tellingSteps_35 (lv_at hl 5 rfl) ?_
      refine r_icmp_gt (tgt := 70) X dX9_tellingSteps_37 (by decide) hf (fun hc hf => ?_) (fun hc hf => ?_)
      · exact w_X9_tellingSteps_b70 X hw1 hw (lv_sub hl [0, 1, 3] rfl) hf
      · refine lv_aload_n hx hb dX9_tellingSteps_40 rfl (lv_at hl 0 rfl) ?_
        refine lv_iload_n hx hb dX9_tellingSteps_41 rfl (lv_at hl 2 rfl) ?_
        refine lv_iload hx hb dX9_tellingSteps_42 (lv_at hl 6 rfl) ?_
        refine r_cvi (rest := []) [.int (mI x3), .int (mI x7)] X hw (fun ra σa h => c_X9_mostLeft l D cy ad bs F x3 x7 σ ra σa  h) sh_35 rfl (by decide) rfl km_X9_mostLeft kv_X9_mostLeft lm_X9_63 dX9_tellingSteps_44 hl.1 rfl rfl (Nat.le_of_ble_eq_true rfl) ⟨by decide, by decide⟩ ⟨Nat.zero_le _, Nat.zero_le _⟩ hf (fun r107 σ108 _ hf H locs hw => ?_)
        refine lv_istore (lv' := [(8, .int (mI r107)), (0, .ref (ad 35)), (1, .ref (ad w1)), (3, .int (mI x3)), (4, .int (mI x4)), (5, .int (mI x5)), (6, .int (mI x6)), (7, .int (mI x7))]) hx hb dX9_tellingSteps_47 hl (by decide) rfl (fun ls hl => ?_)
        refine lv_iload hx hb dX9_tellingSteps_49 (lv_at hl 0 rfl) ?_
        refine lv_iload hx hb dX9_tellingSteps_51 (lv_at hl 5 rfl) ?_
        refine r_icmp_ge (tgt := 64) X dX9_tellingSteps_53 (by decide) hf (fun hc hf => ?_) (fun hc hf => ?_)
        · exact w_X9_tellingSteps_b64 X hw1 hk29 hw (lv_sub hl [1, 2, 3, 4, 5, 6, 7] rfl) hf
        · refine lv_iload hx hb dX9_tellingSteps_56 (lv_at hl 0 rfl) ?_
          refine lv_istore (lv' := [(5, .int (mI r107)), (8, .int (mI r107)), (0, .ref (ad 35)), (1, .ref (ad w1)), (3, .int (mI x3)), (4, .int (mI x4)), (6, .int (mI x6)), (7, .int (mI x7))]) hx hb dX9_tellingSteps_58 hl (by decide) rfl (fun ls hl => ?_)
          refine lv_iload hx hb dX9_tellingSteps_60 (lv_at hl 7 rfl) ?_
          refine lv_istore (lv' := [(4, .int (mI x7)), (5, .int (mI r107)), (8, .int (mI r107)), (0, .ref (ad 35)), (1, .ref (ad w1)), (3, .int (mI x3)), (6, .int (mI x6)), (7, .int (mI x7))]) hx hb dX9_tellingSteps_62 hl (by decide) rfl (fun ls hl => ?_)
          exact w_X9_tellingSteps_b64 X hw1 hk29 hw (lv_sub hl [3, 4, 5, 0, 1, 6, 7] rfl) hf
def g_X9_tellingSteps (F : Nat) (w1 : Nat) (x2 : Int) (σ : mMem) : mRs := mob (g_X9_followAll F w1 x2 σ) (fun r1 σ2 => mob (g_X9_bitsLeft F σ2) (fun r3 σ4 => mob (g_X10_comingSteps F w1 40 σ4) (fun r5 σ6 => g_X9_tellingSteps_h29 F w1 F r3 (-1) 11 r5 1 σ6)))
set_option maxRecDepth 100000 in
set_option maxHeartbeats 4000000 in
theorem c_X9_tellingSteps (l : Launch) (D : va_G) (cy : Nat → ClassId) (ad : Nat → Nat) (bs : Nat) (F : Nat) (w1 : Nat) (x2 : Int) (σ : mMem) (r : Int) (σ' : mMem) (hw1 : mWorld w1) (hf : g_X9_tellingSteps F w1 x2 σ = some (r, σ')) : mCi l D cy ad bs yX9_tellingSteps cX9_tellingSteps 9 (some .int) 7 [.ref (ad 35), .ref (ad w1), .int (mI x2)] σ r σ' := by
  refine mCi.of (lv := [(0, .ref (ad 35)), (1, .ref (ad w1)), (2, .int (mI x2))]) km_X9_tellingSteps.2.2.2.2.2 (Nat.le_of_ble_eq_true rfl) rfl (fun p e s m args below meth c H locs ls X hw hl => ?_)
  obtain ⟨⟨hx, hb, -, -, -⟩, -⟩ := id X
  unfold g_X9_tellingSteps at hf
  refine lv_aload_n hx hb dX9_tellingSteps_0 rfl (lv_at hl 0 rfl) ?_
  refine lv_aload_n hx hb dX9_tellingSteps_1 rfl (lv_at hl 1 rfl) ?_
  refine lv_iload_n hx hb dX9_tellingSteps_2 rfl (lv_at hl 2 rfl) ?_
  refine r_cvv (rest := []) [.ref (ad w1), .int (mI x2)] X hw (fun ra σa h => c_X9_followAll l D cy ad bs F w1 x2 σ ra σa hw1 h) sh_35 rfl (by decide) rfl km_X9_followAll kv_X9_followAll lm_X9_48 dX9_tellingSteps_3 hl.1 rfl rfl (Nat.le_of_ble_eq_true rfl) ⟨by decide, by decide⟩ ⟨Nat.zero_le _, Nat.zero_le _⟩ hf (fun r1 σ2 _ hf H locs hw => ?_)
  refine lv_aload_n hx hb dX9_tellingSteps_6 rfl (lv_at hl 0 rfl) ?_
  refine r_cvi (rest := []) [] X hw (fun ra σa h => c_X9_bitsLeft l D cy ad bs F σ2 ra σa  h) sh_35 rfl (by decide) rfl km_X9_bitsLeft kv_X9_bitsLeft lm_X9_52 dX9_tellingSteps_7 hl.1 rfl rfl (Nat.le_of_ble_eq_true rfl) ⟨by decide, by decide⟩ ⟨Nat.zero_le _, Nat.zero_le _⟩ hf (fun r3 σ4 _ hf H locs hw => ?_)
  refine lv_istore_n (lv' := [(3, .int (mI r3)), (0, .ref (ad 35)), (1, .ref (ad w1)), (2, .int (mI x2))]) hx hb dX9_tellingSteps_10 rfl hl (by decide) rfl (fun ls hl => ?_)
  refine lv_iconst (v := mI (-1)) hx hb dX9_tellingSteps_11 rfl ?_
  refine lv_istore (lv' := [(4, .int (mI (-1))), (3, .int (mI r3)), (0, .ref (ad 35)), (1, .ref (ad w1)), (2, .int (mI x2))]) hx hb dX9_tellingSteps_12 hl (by decide) rfl (fun ls hl => ?_)
  refine lv_bipush (v := mI 11) hx hb dX9_tellingSteps_14 (by decide) ?_
  refine lv_istore (lv' := [(5, .int (mI 11)), (4, .int (mI (-1))), (3, .int (mI r3)), (0, .ref (ad 35)), (1, .ref (ad w1)), (2, .int (mI x2))]) hx hb dX9_tellingSteps_16 hl (by decide) rfl (fun ls hl => ?_)
  refine lv_aload_n hx hb dX9_tellingSteps_18 rfl (lv_at hl 4 rfl) ?_
  refine lv_bipush (v := mI 40) hx hb dX9_tellingSteps_19 (by decide) ?_
  refine r_cvi (rest := []) [.int (mI 40)] X hw (fun ra σa h => c_X10_comingSteps l D cy ad bs F w1 40 σ4 ra σa hw1 h) hw1.1 rfl (by decide) rfl km_X10_comingSteps kv_X10_comingSteps lm_X9_60 dX9_tellingSteps_21 hl.1 rfl rfl (Nat.le_of_ble_eq_true rfl) ⟨by decide, by decide⟩ ⟨Nat.zero_le _, Nat.zero_le _⟩ hf (fun r5 σ6 _ hf H locs hw => ?_)
  refine lv_istore (lv' := [(6, .int (mI r5)), (5, .int (mI 11)), (4, .int (mI (-1))), (3, .int (mI r3)), (0, .ref (ad 35)), (1, .ref (ad w1)), (2, .int (mI x2))]) hx hb dX9_tellingSteps_24 hl (by decide) rfl (fun ls hl => ?_)
  refine lv_iconst (v := mI 1) hx hb dX9_tellingSteps_26 rfl ?_
  refine lv_istore (lv' := [(7, .int (mI 1)), (6, .int (mI r5)), (5, .int (mI 11)), (4, .int (mI (-1))), (3, .int (mI r3)), (0, .ref (ad 35)), (1, .ref (ad w1)), (2, .int (mI x2))]) hx hb dX9_tellingSteps_27 hl (by decide) rfl (fun ls hl => ?_)
  exact w_X9_tellingSteps_h29 X hw1 _ hw (lv_sub hl [5, 6, 4, 3, 2, 1, 0] rfl) hf
def g_X10_begin_h35 (F : Nat) (o : Nat) (p1 : Nat)  : Nat → Int → mMem → mRs
  | 0, _, _ => none
  | n + 1, x2, σ => if mw (σ p1 11) ≤ mw x2 then (some (0, σ)) else (mob (g_X10_set F o x2 3 (σ p1 12) σ) (fun r105 σ106 => (g_X10_begin_h35 F o p1 n) (x2 + 1) σ106))
set_option maxRecDepth 100000 in
set_option maxHeartbeats 4000000 in
theorem w_X10_begin_h35 {p : Program} {l : Launch} {e : Env} {s : State} {m : MethodId} {args : Array Value} {below : List Frame} {meth : Method} {c : Code} {D : va_G} {cy : Nat → ClassId} {ad : Nat → Nat} {bs : Nat} {F : Nat} {o : Nat} {p1 : Nat} (X : mCx p m c cX10_begin 3 s args RX10 meth D cy none) (ho : mWorld o) (hp1 : mPlan p1) {r : Int} {σ' : mMem}   (n : Nat) : ∀ {x2 : Int} {σ : mMem} {H : Heap} {locs : List Loc} {ls : Array Slot} (_ : mWd D cy ad bs true mN σ s.heap H locs) (_ : lv_has ls 3 [(0, .ref (ad o)), (1, .ref (ad p1)), (2, .int (mI x2))]) (_ : g_X10_begin_h35 F o p1 n x2 σ = some (r, σ')), mGv p l e 2 s m args below meth c D cy ad bs σ' H locs (F0 m 35 ls []) := by
  obtain ⟨⟨hx, hb, -, -, -⟩, -⟩ := id X
  induction n with
  | zero =>
    intro x2 σ H locs ls hw hl hf
    unfold g_X10_begin_h35 at hf
    cases hf
  | succ n ih =>
    have hk35 : ∀ (x2 : Int) (σ : mMem) (H : Heap) (locs : List Loc) (ls : Array Slot), mWd D cy ad bs true mN σ s.heap H locs → lv_has ls 3 [(0, .ref (ad o)), (1, .ref (ad p1)), (2, .int (mI x2))] → g_X10_begin_h35 F o p1 n x2 σ = some (r, σ') → mGv p l e 2 s m args below meth c D cy ad bs σ' H locs (F0 m 35 ls []) := fun x2 σ H locs ls hw hl hf => ih hw hl hf
    intro x2 σ H locs ls hw hl hf
    unfold g_X10_begin_h35 at hf
    refine lv_iload_n hx hb dX10_begin_35 rfl (lv_at hl 2 rfl) ?_
    refine lv_aload_n hx hb dX10_begin_36 rfl (lv_at hl 1 rfl) ?_
    refine r_geti X hw hp1.1 fd_5_11 rfl lf_X10_55 dX10_begin_37 ?_
    refine r_icmp_ge (tgt := 59) X dX10_begin_40 (by decide) hf (fun hc hf => ?_) (fun hc hf => ?_)
    · exact r_vret X hw dX10_begin_59 hf
    · refine lv_aload_n hx hb dX10_begin_43 rfl (lv_at hl 0 rfl) ?_
      refine lv_iload_n hx hb dX10_begin_44 rfl (lv_at hl 2 rfl) ?_
      refine lv_iconst (v := mI 3) hx hb dX10_begin_45 rfl ?_
      refine lv_aload_n hx hb dX10_begin_46 rfl (lv_at hl 1 rfl) ?_
      refine r_geti X hw hp1.1 fd_5_12 rfl lf_X10_58 dX10_begin_47 ?_
      refine r_cvv (rest := []) [.int (mI x2), .int (mI 3), .int (mI (σ p1 12))] X hw (fun ra σa h => c_X10_set l D cy ad bs F o x2 3 (σ p1 12) σ ra σa ho h) ho.1 rfl (by decide) rfl km_X10_set kv_X10_set lm_X10_61 dX10_begin_50 hl.1 rfl rfl (Nat.le_of_ble_eq_true rfl) ⟨by decide, by decide⟩ ⟨Nat.zero_le _, Nat.zero_le _⟩ hf (fun r105 σ106 _ hf H locs hw => ?_)
      refine lv_iinc (v := mI (x2 + 1)) (lv' := [(2, .int (mI (x2 + 1))), (0, .ref (ad o)), (1, .ref (ad p1))]) hx hb dX10_begin_53 hl (k := 2) rfl (mI_add _ _) (by decide) rfl (fun ls hl => ?_)
      refine lv_goto (tgt := 35) hx hb dX10_begin_56 (by decide) ?_
      exact hk35 (x2 + 1) σ106 _ _ _ hw (lv_sub hl [1, 2, 0] rfl) hf
def g_X10_begin (F : Nat) (o : Nat) (p1 : Nat) (σ : mMem) : mRs := mlm (mup σ o 3 ((p1 : Nat) : Int)) (fun σ1 => mlm (mup σ1 o 4 0) (fun σ2 => mlm (mup σ2 o 5 (σ2 p1 13)) (fun σ3 => if 0 ≤ mw 0 ∧ 0 ≤ mw 0 ∧ 0 ≤ mw 60 ∧ mw 0 + mw 60 ≤ (60 : Int) ∧ mw 0 + mw 60 ≤ (60 : Int) then mlm (mupo σ3 (o + 1) (mcpy (σ3 (p1 + 3)) (σ3 (o + 1)) (mw 0).toNat (mw 0).toNat (mw 60).toNat)) (fun σ4 => g_X10_begin_h35 F o p1 F 0 σ4) else none)))
set_option maxRecDepth 100000 in
set_option maxHeartbeats 4000000 in
theorem c_X10_begin (l : Launch) (D : va_G) (cy : Nat → ClassId) (ad : Nat → Nat) (bs : Nat) (F : Nat) (o : Nat) (p1 : Nat)  (σ : mMem) (r : Int) (σ' : mMem) (ho : mWorld o) (hp1 : mPlan p1) (hf : g_X10_begin F o p1 σ = some (r, σ')) : mCv l D cy ad bs yX10_begin cX10_begin 3 none 2 [.ref (ad o), .ref (ad p1)] σ σ' := by
  refine mCv.of (lv := [(0, .ref (ad o)), (1, .ref (ad p1))]) km_X10_begin.2.2.2.2.2 (Nat.le_of_ble_eq_true rfl) rfl (fun p e s m args below meth c H locs ls X hw hl => ?_)
  obtain ⟨⟨hx, hb, -, -, -⟩, -⟩ := id X
  unfold g_X10_begin at hf
  refine lv_aload_n hx hb dX10_begin_0 rfl (lv_at hl 0 rfl) ?_
  refine lv_aload_n hx hb dX10_begin_1 rfl (lv_at hl 1 rfl) ?_
  refine r_putd X hw ho.1 fd_10_3 fp_10_3 rfl rfl lf_X10_28 dX10_begin_2 (fun H locs hw => ?_)
  refine r_mem hf hw (fun σ1 hw hf => ?_)
  refine lv_aload_n hx hb dX10_begin_5 rfl (lv_at hl 0 rfl) ?_
  refine lv_iconst (v := mI 0) hx hb dX10_begin_6 rfl ?_
  refine r_puti X hw ho.1 fd_10_4 fp_10_4 rfl rfl lf_X10_32 dX10_begin_7 (fun H locs hw => ?_)
  refine r_mem hf hw (fun σ2 hw hf => ?_)
  refine lv_aload_n hx hb dX10_begin_10 rfl (lv_at hl 0 rfl) ?_
  refine lv_aload_n hx hb dX10_begin_11 rfl (lv_at hl 1 rfl) ?_
  refine r_geti X hw hp1.1 fd_5_13 rfl lf_X10_45 dX10_begin_12 ?_
  refine r_puti X hw ho.1 fd_10_5 fp_10_5 rfl rfl lf_X10_36 dX10_begin_15 (fun H locs hw => ?_)
  refine r_mem hf hw (fun σ3 hw hf => ?_)
  refine lv_aload_n hx hb dX10_begin_18 rfl (lv_at hl 1 rfl) ?_
  refine r_getr (p1 + 3) X hw hp1.1 fd_5_2 rfl rfl lf_X10_46 dX10_begin_19 ?_
  refine lv_iconst (v := mI 0) hx hb dX10_begin_22 rfl ?_
  refine lv_aload_n hx hb dX10_begin_23 rfl (lv_at hl 0 rfl) ?_
  refine r_getr (o + 1) X hw ho.1 fd_10_0 rfl rfl lf_X10_13 dX10_begin_24 ?_
  refine lv_iconst (v := mI 0) hx hb dX10_begin_27 rfl ?_
  refine lv_bipush (v := mI 60) hx hb dX10_begin_28 (by decide) ?_
  refine r_copy (rest := []) (60 : Int) (60 : Int) rfl rfl X hw hp1.2.2.2.1 ho.2.1 lm_X10_49 ka_nat ka_stat ka_ini hl.1 (by decide) (Nat.le_of_ble_eq_true rfl) dX10_begin_30 hf (fun hf H locs hw => ?_)
  refine r_mem hf hw (fun σ4 hw hf => ?_)
  refine lv_iconst (v := mI 0) hx hb dX10_begin_33 rfl ?_
  refine lv_istore_n (lv' := [(2, .int (mI 0)), (0, .ref (ad o)), (1, .ref (ad p1))]) hx hb dX10_begin_34 rfl hl (by decide) rfl (fun ls hl => ?_)
  exact w_X10_begin_h35 X ho hp1 _ hw (lv_sub hl [1, 2, 0] rfl) hf
