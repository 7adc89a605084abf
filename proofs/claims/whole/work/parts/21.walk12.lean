def g_X12_seen_b40 (F : Nat)  (t0 : Int) (σ : mMem) : mRs := some (t0, σ)
set_option maxRecDepth 100000 in
set_option maxHeartbeats 4000000 in
theorem w_X12_seen_b40 {p : Program} {l : Launch} {e : Env} {s : State} {m : MethodId} {args : Array Value} {below : List Frame} {meth : Method} {c : Code} {D : va_G} {cy : Nat → ClassId} {ad : Nat → Nat} {bs : Nat} {F : Nat}  (X : mCx p m c cX12_seen 4 s args RX12 meth D cy (some .int))  {r : Int} {σ' : mMem}   {t0 : Int} {σ : mMem} {H : Heap} {locs : List Loc} {ls : Array Slot} (hw : mWd D cy ad bs true mN σ s.heap H locs) (hl : lv_has ls 4 [(0, .ref (ad 86))]) (hf : g_X12_seen_b40 F t0 σ = some (r, σ')) : mGi p l e 1 s m args below meth c D cy ad bs r σ' H locs (F0 m 40 ls [.int (mI t0)]) := by
  obtain ⟨⟨hx, hb, -, -, -⟩, -⟩ := id X
  unfold g_X12_seen_b40 at hf
  exact r_iret X hw dX12_seen_40 hf
def g_X12_seen_b30 (F : Nat)  (t0 : Int) (σ : mMem) : mRs := if 0 ≤ mw t0 then (g_X12_seen_b40 F t0 σ) else (g_X12_seen_b40 F 0 σ)
set_option maxRecDepth 100000 in
set_option maxHeartbeats 4000000 in
theorem w_X12_seen_b30 {p : Program} {l : Launch} {e : Env} {s : State} {m : MethodId} {args : Array Value} {below : List Frame} {meth : Method} {c : Code} {D : va_G} {cy : Nat → ClassId} {ad : Nat → Nat} {bs : Nat} {F : Nat}  (X : mCx p m c cX12_seen 4 s args RX12 meth D cy (some .int))  {r : Int} {σ' : mMem}   {t0 : Int} {σ : mMem} {H : Heap} {locs : List Loc} {ls : Array Slot} (hw : mWd D cy ad bs true mN σ s.heap H locs) (hl : lv_has ls 4 [(0, .ref (ad 86))]) (hf : g_X12_seen_b30 F t0 σ = some (r, σ')) : mGi p l e 1 s m args below meth c D cy ad bs r σ' H locs (F0 m 30 ls [.int (mI t0)]) := by
  obtain ⟨⟨hx, hb, -, -, -⟩, -⟩ := id X
  unfold g_X12_seen_b30 at hf
  refine lv_istore_n (lv' := [(3, .int (mI t0)), (0, .ref (ad 86))]) hx hb dX12_seen_30 rfl hl (by decide) rfl (fun ls hl => ?_)
  refine lv_iload_n hx hb dX12_seen_31 rfl (lv_at hl 0 rfl) ?_
  refine r_if_ge (tgt := 39) X dX12_seen_32 (by decide) hf (fun hc hf => ?_) (fun hc hf => ?_)
  · refine lv_iload_n hx hb dX12_seen_39 rfl (lv_at hl 0 rfl) ?_
    exact w_X12_seen_b40 X hw (lv_sub hl [1] rfl) hf
  · refine lv_iconst (v := mI 0) hx hb dX12_seen_35 rfl ?_
    refine lv_goto (tgt := 40) hx hb dX12_seen_36 (by decide) ?_
    exact w_X12_seen_b40 X hw (lv_sub hl [1] rfl) hf
def g_X12_seen (F : Nat) (x1 x2 : Int) (σ : mMem) : mRs := if ¬ mw x2 = mw (-1) then (if 0 ≤ mw ((81 * (σ 86 13)) + x2) ∧ mw ((81 * (σ 86 13)) + x2) < (162 : Int) then if 0 ≤ mw x1 ∧ mw x1 < (22 : Int) then g_X12_seen_b30 F ((σ 90 (mw ((81 * (σ 86 13)) + x2)).toNat) - (σ 111 (mw x1).toNat)) σ else none else none) else (g_X12_seen_b30 F 0 σ)
set_option maxRecDepth 100000 in
set_option maxHeartbeats 4000000 in
theorem c_X12_seen (l : Launch) (D : va_G) (cy : Nat → ClassId) (ad : Nat → Nat) (bs : Nat) (F : Nat)  (x1 x2 : Int) (σ : mMem) (r : Int) (σ' : mMem)  (hf : g_X12_seen F x1 x2 σ = some (r, σ')) : mCi l D cy ad bs yX12_seen cX12_seen 4 (some .int) 1 [.ref (ad 86), .int (mI x1), .int (mI x2)] σ r σ' := by
  refine mCi.of (lv := [(0, .ref (ad 86)), (1, .int (mI x1)), (2, .int (mI x2))]) km_X12_seen.2.2.2.2.2 (Nat.le_of_ble_eq_true rfl) rfl (fun p e s m args below meth c H locs ls X hw hl => ?_)
  obtain ⟨⟨hx, hb, -, -, -⟩, -⟩ := id X
  unfold g_X12_seen at hf
  refine lv_iload_n hx hb dX12_seen_0 rfl (lv_at hl 2 rfl) ?_
  refine lv_iconst (v := mI (-1)) hx hb dX12_seen_1 rfl ?_
  refine r_icmp_ne (tgt := 9) X dX12_seen_2 (by decide) hf (fun hc hf => ?_) (fun hc hf => ?_)
  · refine lv_aload_n hx hb dX12_seen_9 rfl (lv_at hl 0 rfl) ?_
    refine r_getr 90 X hw sh_86 fd_12_16 rfl rfl lf_X12_60 dX12_seen_10 ?_
    refine lv_bipush (v := mI 81) hx hb dX12_seen_13 (by decide) ?_
    refine lv_aload_n hx hb dX12_seen_15 rfl (lv_at hl 0 rfl) ?_
    refine r_geti X hw sh_86 fd_12_13 rfl lf_X12_51 dX12_seen_16 ?_
    refine r_imul X dX12_seen_19 ?_
    refine lv_iload_n hx hb dX12_seen_20 rfl (lv_at hl 2 rfl) ?_
    refine r_iadd X dX12_seen_21 ?_
    refine r_iald (162 : Int) rfl X hw sh_90 dX12_seen_22 hf (fun hf => ?_)
    refine lv_aload_n hx hb dX12_seen_23 rfl (lv_at hl 0 rfl) ?_
    refine r_getr 111 X hw sh_86 fd_12_44 rfl rfl lf_X12_147 dX12_seen_24 ?_
    refine lv_iload_n hx hb dX12_seen_27 rfl (lv_at hl 1 rfl) ?_
    refine r_iald (22 : Int) rfl X hw sh_111 dX12_seen_28 hf (fun hf => ?_)
    refine r_isub X dX12_seen_29 ?_
    exact w_X12_seen_b30 X hw (lv_sub hl [0] rfl) hf
  · refine lv_iconst (v := mI 0) hx hb dX12_seen_5 rfl ?_
    refine lv_goto (tgt := 30) hx hb dX12_seen_6 (by decide) ?_
    exact w_X12_seen_b30 X hw (lv_sub hl [0] rfl) hf
def g_X12_isBlack_b15 (F : Nat)  (t0 : Int) (σ : mMem) : mRs := if mw t0 = 0 ∨ mw t0 = 1 then some (t0, σ) else none
set_option maxRecDepth 100000 in
set_option maxHeartbeats 4000000 in
theorem w_X12_isBlack_b15 {p : Program} {l : Launch} {e : Env} {s : State} {m : MethodId} {args : Array Value} {below : List Frame} {meth : Method} {c : Code} {D : va_G} {cy : Nat → ClassId} {ad : Nat → Nat} {bs : Nat} {F : Nat}  (X : mCx p m c cX12_isBlack 3 s args RX12 meth D cy (some .boolean))  {r : Int} {σ' : mMem}   {t0 : Int} {σ : mMem} {H : Heap} {locs : List Loc} {ls : Array Slot} (hw : mWd D cy ad bs true mN σ s.heap H locs) (hl : lv_has ls 3 [(0, .ref (ad 86))]) (hf : g_X12_isBlack_b15 F t0 σ = some (r, σ')) : mGi p l e 2 s m args below meth c D cy ad bs r σ' H locs (F0 m 15 ls [.int (mI t0)]) := by
  obtain ⟨⟨hx, hb, -, -, -⟩, -⟩ := id X
  unfold g_X12_isBlack_b15 at hf
  exact r_zret X hw dX12_isBlack_15 hf
def g_X12_isBlack (F : Nat) (x1 x2 : Int) (σ : mMem) : mRs := mob (g_X12_seen F x1 x2 σ) (fun r1 σ2 => if mw r1 < mw 5 then (g_X12_isBlack_b15 F 0 σ2) else (g_X12_isBlack_b15 F 1 σ2))
set_option maxRecDepth 100000 in
set_option maxHeartbeats 4000000 in
theorem c_X12_isBlack (l : Launch) (D : va_G) (cy : Nat → ClassId) (ad : Nat → Nat) (bs : Nat) (F : Nat)  (x1 x2 : Int) (σ : mMem) (r : Int) (σ' : mMem)  (hf : g_X12_isBlack F x1 x2 σ = some (r, σ')) : mCi l D cy ad bs yX12_isBlack cX12_isBlack 3 (some .boolean) 2 [.ref (ad 86), .int (mI x1), .int (mI x2)] σ r σ' := by
  refine mCi.of (lv := [(0, .ref (ad 86)), (1, .int (mI x1)), (2, .int (mI x2))]) km_X12_isBlack.2.2.2.2.2 (Nat.le_of_ble_eq_true rfl) rfl (fun p e s m args below meth c H locs ls X hw hl => ?_)
  obtain ⟨⟨hx, hb, -, -, -⟩, -⟩ := id X
  unfold g_X12_isBlack at hf
  refine lv_aload_n hx hb dX12_isBlack_0 rfl (lv_at hl 0 rfl) ?_
  refine lv_iload_n hx hb dX12_isBlack_1 rfl (lv_at hl 1 rfl) ?_
  refine lv_iload_n hx hb dX12_isBlack_2 rfl (lv_at hl 2 rfl) ?_
  refine r_cvi (rest := []) [.int (mI x1), .int (mI x2)] X hw (fun ra σa h => c_X12_seen l D cy ad bs F x1 x2 σ ra σa  h) sh_86 rfl (by decide) rfl km_X12_seen kv_X12_seen lm_X12_450 dX12_isBlack_3 hl.1 rfl rfl (Nat.le_of_ble_eq_true rfl) ⟨by decide, by decide⟩ ⟨Nat.zero_le _, Nat.zero_le _⟩ hf (fun r1 σ2 _ hf H locs hw => ?_)
  refine lv_iconst (v := mI 5) hx hb dX12_isBlack_6 rfl ?_
  refine r_icmp_lt (tgt := 14) X dX12_isBlack_7 (by decide) hf (fun hc hf => ?_) (fun hc hf => ?_)
  · refine lv_iconst (v := mI 0) hx hb dX12_isBlack_14 rfl ?_
    exact w_X12_isBlack_b15 X hw (lv_sub hl [0] rfl) hf
  · refine lv_iconst (v := mI 1) hx hb dX12_isBlack_10 rfl ?_
    refine lv_goto (tgt := 15) hx hb dX12_isBlack_11 (by decide) ?_
    exact w_X12_isBlack_b15 X hw (lv_sub hl [0] rfl) hf
def g_X12_apart_b29 (F : Nat)  (t0 : Int) (σ : mMem) : mRs := some (t0, σ)
set_option maxRecDepth 100000 in
set_option maxHeartbeats 4000000 in
theorem w_X12_apart_b29 {p : Program} {l : Launch} {e : Env} {s : State} {m : MethodId} {args : Array Value} {below : List Frame} {meth : Method} {c : Code} {D : va_G} {cy : Nat → ClassId} {ad : Nat → Nat} {bs : Nat} {F : Nat}  (X : mCx p m c cX12_apart 2 s args RX12 meth D cy (some .int))  {r : Int} {σ' : mMem}   {t0 : Int} {σ : mMem} {H : Heap} {locs : List Loc} {ls : Array Slot} (hw : mWd D cy ad bs true mN σ s.heap H locs) (hl : lv_has ls 2 [(0, .ref (ad 86))]) (hf : g_X12_apart_b29 F t0 σ = some (r, σ')) : mGi p l e 1 s m args below meth c D cy ad bs r σ' H locs (F0 m 29 ls [.int (mI t0)]) := by
  obtain ⟨⟨hx, hb, -, -, -⟩, -⟩ := id X
  unfold g_X12_apart_b29 at hf
  exact r_iret X hw dX12_apart_29 hf
def g_X12_apart (F : Nat) (x1 : Int) (σ : mMem) : mRs := if ¬ mw x1 = mw (σ 86 57) then (if 0 ≤ mw ((6 * (σ 86 13)) + x1) ∧ mw ((6 * (σ 86 13)) + x1) < (12 : Int) then g_X12_apart_b29 F (σ 94 (mw ((6 * (σ 86 13)) + x1)).toNat) σ else none) else (g_X12_apart_b29 F (σ 86 58) σ)
set_option maxRecDepth 100000 in
set_option maxHeartbeats 4000000 in
theorem c_X12_apart (l : Launch) (D : va_G) (cy : Nat → ClassId) (ad : Nat → Nat) (bs : Nat) (F : Nat)  (x1 : Int) (σ : mMem) (r : Int) (σ' : mMem)  (hf : g_X12_apart F x1 σ = some (r, σ')) : mCi l D cy ad bs yX12_apart cX12_apart 2 (some .int) 1 [.ref (ad 86), .int (mI x1)] σ r σ' := by
  refine mCi.of (lv := [(0, .ref (ad 86)), (1, .int (mI x1))]) km_X12_apart.2.2.2.2.2 (Nat.le_of_ble_eq_true rfl) rfl (fun p e s m args below meth c H locs ls X hw hl => ?_)
  obtain ⟨⟨hx, hb, -, -, -⟩, -⟩ := id X
  unfold g_X12_apart at hf
  refine lv_iload_n hx hb dX12_apart_0 rfl (lv_at hl 1 rfl) ?_
  refine lv_aload_n hx hb dX12_apart_1 rfl (lv_at hl 0 rfl) ?_
  refine r_geti X hw sh_86 fd_12_57 rfl lf_X12_186 dX12_apart_2 ?_
  refine r_icmp_ne (tgt := 15) X dX12_apart_5 (by decide) hf (fun hc hf => ?_) (fun hc hf => ?_)
  · refine lv_aload_n hx hb dX12_apart_15 rfl (lv_at hl 0 rfl) ?_
    refine r_getr 94 X hw sh_86 fd_12_20 rfl rfl lf_X12_72 dX12_apart_16 ?_
    refine lv_bipush (v := mI 6) hx hb dX12_apart_19 (by decide) ?_
    refine lv_aload_n hx hb dX12_apart_21 rfl (lv_at hl 0 rfl) ?_
    refine r_geti X hw sh_86 fd_12_13 rfl lf_X12_51 dX12_apart_22 ?_
    refine r_imul X dX12_apart_25 ?_
    refine lv_iload_n hx hb dX12_apart_26 rfl (lv_at hl 1 rfl) ?_
    refine r_iadd X dX12_apart_27 ?_
    refine r_iald (12 : Int) rfl X hw sh_94 dX12_apart_28 hf (fun hf => ?_)
    exact w_X12_apart_b29 X hw (lv_sub hl [0] rfl) hf
  · refine lv_aload_n hx hb dX12_apart_8 rfl (lv_at hl 0 rfl) ?_
    refine r_geti X hw sh_86 fd_12_58 rfl lf_X12_189 dX12_apart_9 ?_
    refine lv_goto (tgt := 29) hx hb dX12_apart_12 (by decide) ?_
    exact w_X12_apart_b29 X hw (lv_sub hl [0] rfl) hf
def g_X12_on_b29 (F : Nat)  (t0 : Int) (σ : mMem) : mRs := some (t0, σ)
set_option maxRecDepth 100000 in
set_option maxHeartbeats 4000000 in
theorem w_X12_on_b29 {p : Program} {l : Launch} {e : Env} {s : State} {m : MethodId} {args : Array Value} {below : List Frame} {meth : Method} {c : Code} {D : va_G} {cy : Nat → ClassId} {ad : Nat → Nat} {bs : Nat} {F : Nat}  (X : mCx p m c cX12_on 2 s args RX12 meth D cy (some .int))  {r : Int} {σ' : mMem}   {t0 : Int} {σ : mMem} {H : Heap} {locs : List Loc} {ls : Array Slot} (hw : mWd D cy ad bs true mN σ s.heap H locs) (hl : lv_has ls 2 [(0, .ref (ad 86))]) (hf : g_X12_on_b29 F t0 σ = some (r, σ')) : mGi p l e 1 s m args below meth c D cy ad bs r σ' H locs (F0 m 29 ls [.int (mI t0)]) := by
  obtain ⟨⟨hx, hb, -, -, -⟩, -⟩ := id X
  unfold g_X12_on_b29 at hf
  exact r_iret X hw dX12_on_29 hf
def g_X12_on (F : Nat) (x1 : Int) (σ : mMem) : mRs := if ¬ mw x1 = mw (σ 86 57) then (if 0 ≤ mw ((6 * (σ 86 13)) + x1) ∧ mw ((6 * (σ 86 13)) + x1) < (12 : Int) then g_X12_on_b29 F (σ 95 (mw ((6 * (σ 86 13)) + x1)).toNat) σ else none) else (g_X12_on_b29 F (σ 86 59) σ)
set_option maxRecDepth 100000 in
set_option maxHeartbeats 4000000 in
theorem c_X12_on (l : Launch) (D : va_G) (cy : Nat → ClassId) (ad : Nat → Nat) (bs : Nat) (F : Nat)  (x1 : Int) (σ : mMem) (r : Int) (σ' : mMem)  (hf : g_X12_on F x1 σ = some (r, σ')) : mCi l D cy ad bs yX12_on cX12_on 2 (some .int) 1 [.ref (ad 86), .int (mI x1)] σ r σ' := by
  refine mCi.of (lv := [(0, .ref (ad 86)), (1, .int (mI x1))]) km_X12_on.2.2.2.2.2 (Nat.le_of_ble_eq_true rfl) rfl (fun p e s m args below meth c H locs ls X hw hl => ?_)
  obtain ⟨⟨hx, hb, -, -, -⟩, -⟩ := id X
  unfold g_X12_on at hf
  refine lv_iload_n hx hb dX12_on_0 rfl (lv_at hl 1 rfl) ?_
  refine lv_aload_n hx hb dX12_on_1 rfl (lv_at hl 0 rfl) ?_
  refine r_geti X hw sh_86 fd_12_57 rfl lf_X12_186 dX12_on_2 ?_
  refine r_icmp_ne (tgt := 15) X dX12_on_5 (by decide) hf (fun hc hf => ?_) (fun hc hf => ?_)
  · refine lv_aload_n hx hb dX12_on_15 rfl (lv_at hl 0 rfl) ?_
    refine r_getr 95 X hw sh_86 fd_12_21 rfl rfl lf_X12_75 dX12_on_16 ?_
    refine lv_bipush (v := mI 6) hx hb dX12_on_19 (by decide) ?_
    refine lv_aload_n hx hb dX12_on_21 rfl (lv_at hl 0 rfl) ?_
    refine r_geti X hw sh_86 fd_12_13 rfl lf_X12_51 dX12_on_22 ?_
    refine r_imul X dX12_on_25 ?_
    refine lv_iload_n hx hb dX12_on_26 rfl (lv_at hl 1 rfl) ?_
    refine r_iadd X dX12_on_27 ?_
    refine r_iald (12 : Int) rfl X hw sh_95 dX12_on_28 hf (fun hf => ?_)
    exact w_X12_on_b29 X hw (lv_sub hl [0] rfl) hf
  · refine lv_aload_n hx hb dX12_on_8 rfl (lv_at hl 0 rfl) ?_
    refine r_geti X hw sh_86 fd_12_59 rfl lf_X12_192 dX12_on_9 ?_
    refine lv_goto (tgt := 29) hx hb dX12_on_12 (by decide) ?_
    exact w_X12_on_b29 X hw (lv_sub hl [0] rfl) hf
def g_X12_bias_b29 (F : Nat)  (t0 : Int) (σ : mMem) : mRs := some (t0, σ)
set_option maxRecDepth 100000 in
set_option maxHeartbeats 4000000 in
theorem w_X12_bias_b29 {p : Program} {l : Launch} {e : Env} {s : State} {m : MethodId} {args : Array Value} {below : List Frame} {meth : Method} {c : Code} {D : va_G} {cy : Nat → ClassId} {ad : Nat → Nat} {bs : Nat} {F : Nat}  (X : mCx p m c cX12_bias 2 s args RX12 meth D cy (some .int))  {r : Int} {σ' : mMem}   {t0 : Int} {σ : mMem} {H : Heap} {locs : List Loc} {ls : Array Slot} (hw : mWd D cy ad bs true mN σ s.heap H locs) (hl : lv_has ls 2 [(0, .ref (ad 86))]) (hf : g_X12_bias_b29 F t0 σ = some (r, σ')) : mGi p l e 1 s m args below meth c D cy ad bs r σ' H locs (F0 m 29 ls [.int (mI t0)]) := by
  obtain ⟨⟨hx, hb, -, -, -⟩, -⟩ := id X
  unfold g_X12_bias_b29 at hf
  exact r_iret X hw dX12_bias_29 hf
def g_X12_bias (F : Nat) (x1 : Int) (σ : mMem) : mRs := if ¬ mw x1 = mw (σ 86 60) then (if 0 ≤ mw ((6 * (σ 86 13)) + x1) ∧ mw ((6 * (σ 86 13)) + x1) < (12 : Int) then g_X12_bias_b29 F (σ 96 (mw ((6 * (σ 86 13)) + x1)).toNat) σ else none) else (g_X12_bias_b29 F (σ 86 61) σ)
set_option maxRecDepth 100000 in
set_option maxHeartbeats 4000000 in
theorem c_X12_bias (l : Launch) (D : va_G) (cy : Nat → ClassId) (ad : Nat → Nat) (bs : Nat) (F : Nat)  (x1 : Int) (σ : mMem) (r : Int) (σ' : mMem)  (hf : g_X12_bias F x1 σ = some (r, σ')) : mCi l D cy ad bs yX12_bias cX12_bias 2 (some .int) 1 [.ref (ad 86), .int (mI x1)] σ r σ' := by
  refine mCi.of (lv := [(0, .ref (ad 86)), (1, .int (mI x1))]) km_X12_bias.2.2.2.2.2 (Nat.le_of_ble_eq_true rfl) rfl (fun p e s m args below meth c H locs ls X hw hl => ?_)
  obtain ⟨⟨hx, hb, -, -, -⟩, -⟩ := id X
  unfold g_X12_bias at hf
  refine lv_iload_n hx hb dX12_bias_0 rfl (lv_at hl 1 rfl) ?_
  refine lv_aload_n hx hb dX12_bias_1 rfl (lv_at hl 0 rfl) ?_
  refine r_geti X hw sh_86 fd_12_60 rfl lf_X12_195 dX12_bias_2 ?_
  refine r_icmp_ne (tgt := 15) X dX12_bias_5 (by decide) hf (fun hc hf => ?_) (fun hc hf => ?_)
  · refine lv_aload_n hx hb dX12_bias_15 rfl (lv_at hl 0 rfl) ?_
    refine r_getr 96 X hw sh_86 fd_12_22 rfl rfl lf_X12_78 dX12_bias_16 ?_
    refine lv_bipush (v := mI 6) hx hb dX12_bias_19 (by decide) ?_
    refine lv_aload_n hx hb dX12_bias_21 rfl (lv_at hl 0 rfl) ?_
    refine r_geti X hw sh_86 fd_12_13 rfl lf_X12_51 dX12_bias_22 ?_
    refine r_imul X dX12_bias_25 ?_
    refine lv_iload_n hx hb dX12_bias_26 rfl (lv_at hl 1 rfl) ?_
    refine r_iadd X dX12_bias_27 ?_
    refine r_iald (12 : Int) rfl X hw sh_96 dX12_bias_28 hf (fun hf => ?_)
    exact w_X12_bias_b29 X hw (lv_sub hl [0] rfl) hf
  · refine lv_aload_n hx hb dX12_bias_8 rfl (lv_at hl 0 rfl) ?_
    refine r_geti X hw sh_86 fd_12_61 rfl lf_X12_198 dX12_bias_9 ?_
    refine lv_goto (tgt := 29) hx hb dX12_bias_12 (by decide) ?_
    exact w_X12_bias_b29 X hw (lv_sub hl [0] rfl) hf
def g_X12_eye_b27 (F : Nat)  (x1 x2 t0 : Int) (σ : mMem) : mRs := if 0 ≤ mw ((6 * x1) + x2) ∧ mw ((6 * x1) + x2) < (132 : Int) then if 0 ≤ mw ((6 * x1) + x2) ∧ mw ((6 * x1) + x2) < (132 : Int) then mob (g_X12_on F x2 σ) (fun r105 σ106 => mob (g_X12_off F (σ 112 (mw ((6 * x1) + x2)).toNat) (σ 113 (mw ((6 * x1) + x2)).toNat) r105 t0 σ106) (fun r107 σ108 => mob (g_X12_seen F x1 r107 σ108) (fun r109 σ110 => some (r109, σ110)))) else none else none
set_option maxRecDepth 100000 in
set_option maxHeartbeats 4000000 in
theorem w_X12_eye_b27 {p : Program} {l : Launch} {e : Env} {s : State} {m : MethodId} {args : Array Value} {below : List Frame} {meth : Method} {c : Code} {D : va_G} {cy : Nat → ClassId} {ad : Nat → Nat} {bs : Nat} {F : Nat}  (X : mCx p m c cX12_eye 5 s args RX12 meth D cy (some .int))  {r : Int} {σ' : mMem}   {x1 x2 t0 : Int} {σ : mMem} {H : Heap} {locs : List Loc} {ls : Array Slot} (hw : mWd D cy ad bs true mN σ s.heap H locs) (hl : lv_has ls 5 [(0, .ref (ad 86)), (1, .int (mI x1)), (2, .int (mI x2))]) (hf : g_X12_eye_b27 F x1 x2 t0 σ = some (r, σ')) : mGi p l e 4 s m args below meth c D cy ad bs r σ' H locs (F0 m 27 ls [.int (mI t0)]) := by
  obtain ⟨⟨hx, hb, -, -, -⟩, -⟩ := id X
  unfold g_X12_eye_b27 at hf
  refine lv_istore (lv' := [(4, .int (mI t0)), (0, .ref (ad 86)), (1, .int (mI x1)), (2, .int (mI x2))]) hx hb dX12_eye_27 hl (by decide) rfl (fun ls hl => ?_)
  refine lv_aload_n hx hb dX12_eye_29 rfl (lv_at hl 1 rfl) ?_
  refine lv_iload_n hx hb dX12_eye_30 rfl (lv_at hl 2 rfl) ?_
  refine lv_aload_n hx hb dX12_eye_31 rfl (lv_at hl 1 rfl) ?_
  refine lv_aload_n hx hb dX12_eye_32 rfl (lv_at hl 1 rfl) ?_
  refine r_getr 112 X hw sh_86 fd_12_45 rfl rfl lf_X12_150 dX12_eye_33 ?_
  refine lv_bipush (v := mI 6) hx hb dX12_eye_36 (by decide) ?_
  refine lv_iload_n hx hb dX12_eye_38 rfl (lv_at hl 2 rfl) ?_
  refine r_imul X dX12_eye_39 ?_
  refine lv_iload_n hx hb dX12_eye_40 rfl (lv_at hl 3 rfl) ?_
  refine r_iadd X dX12_eye_41 ?_
  refine r_iald (132 : Int) rfl X hw sh_112 dX12_eye_42 hf (fun hf => ?_)
  refine lv_aload_n hx hb dX12_eye_43 rfl (lv_at hl 1 rfl) ?_
  refine r_getr 113 X hw sh_86 fd_12_46 rfl rfl lf_X12_153 dX12_eye_44 ?_
  refine lv_bipush (v := mI 6) hx hb dX12_eye_47 (by decide) ?_
  refine lv_iload_n hx hb dX12_eye_49 rfl (lv_at hl 2 rfl) ?_
  refine r_imul X dX12_eye_50 ?_
  refine lv_iload_n hx hb dX12_eye_51 rfl (lv_at hl 3 rfl) ?_
  refine r_iadd X dX12_eye_52 ?_
  refine r_iald (132 : Int) rfl X hw sh_113 dX12_eye_53 hf (fun hf => ?_)
  refine lv_aload_n hx hb dX12_eye_54 rfl (lv_at hl 1 rfl) ?_
  refine lv_iload_n hx hb dX12_eye_55 rfl (lv_at hl 3 rfl) ?_
  refine r_cvi (rest := [.int (mI (σ 113 (mw ((6 * x1) + x2)).toNat)), .int (mI (σ 112 (mw ((6 * x1) + x2)).toNat)), .ref (ad 86), .int (mI x1), .ref (ad 86)]) [.int (mI x2)] X hw (fun ra σa h => c_X12_on l D cy ad bs F x2 σ ra σa  h) sh_86 rfl (by decide) rfl km_X12_on kv_X12_on lm_X12_456 dX12_eye_56 hl.1 rfl rfl (Nat.le_of_ble_eq_true rfl) ⟨by decide, by decide⟩ ⟨Nat.zero_le _, Nat.zero_le _⟩ hf (fun r105 σ106 _ hf H locs hw => ?_)
  refine lv_iload hx hb dX12_eye_59 (lv_at hl 0 rfl) ?_
  refine r_cvi (rest := [.int (mI x1), .ref (ad 86)]) [.int (mI (σ 112 (mw ((6 * x1) + x2)).toNat)), .int (mI (σ 113 (mw ((6 * x1) + x2)).toNat)), .int (mI r105), .int (mI t0)] X hw (fun ra σa h => c_X12_off l D cy ad bs F (σ 112 (mw ((6 * x1) + x2)).toNat) (σ 113 (mw ((6 * x1) + x2)).toNat) r105 t0 σ106 ra σa  h) sh_86 rfl (by decide) rfl km_X12_off kv_X12_off lm_X12_459 dX12_eye_61 hl.1 rfl rfl (Nat.le_of_ble_eq_true rfl) ⟨by decide, by decide⟩ ⟨Nat.zero_le _, Nat.zero_le _⟩ hf (fun r107 σ108 _ hf H locs hw => ?_)
  refine r_cvi (rest := []) [.int (mI x1), .int (mI r107)] X hw (fun ra σa h => c_X12_seen l D cy ad bs F x1 r107 σ108 ra σa  h) sh_86 rfl (by decide) rfl km_X12_seen kv_X12_seen lm_X12_450 dX12_eye_64 hl.1 rfl rfl (Nat.le_of_ble_eq_true rfl) ⟨by decide, by decide⟩ ⟨Nat.zero_le _, Nat.zero_le _⟩ hf (fun r109 σ110 _ hf H locs hw => ?_)
  exact r_iret X hw dX12_eye_67 hf
def g_X12_eye (F : Nat) (x1 x2 x3 : Int) (σ : mMem) : mRs := if ¬ mw x3 = 0 then (if ¬ mw x3 = mw 1 then (g_X12_eye_b27 F x1 x2 0 σ) else (mob (g_X12_apart F x2 σ) (fun r1 σ2 => g_X12_eye_b27 F x1 x2 r1 σ2))) else (mob (g_X12_apart F x2 σ) (fun r3 σ4 => g_X12_eye_b27 F x1 x2 (-r3) σ4))
set_option maxRecDepth 100000 in
set_option maxHeartbeats 4000000 in
theorem c_X12_eye (l : Launch) (D : va_G) (cy : Nat → ClassId) (ad : Nat → Nat) (bs : Nat) (F : Nat)  (x1 x2 x3 : Int) (σ : mMem) (r : Int) (σ' : mMem)  (hf : g_X12_eye F x1 x2 x3 σ = some (r, σ')) : mCi l D cy ad bs yX12_eye cX12_eye 5 (some .int) 4 [.ref (ad 86), .int (mI x1), .int (mI x2), .int (mI x3)] σ r σ' := by
  refine mCi.of (lv := [(0, .ref (ad 86)), (1, .int (mI x1)), (2, .int (mI x2)), (3, .int (mI x3))]) km_X12_eye.2.2.2.2.2 (Nat.le_of_ble_eq_true rfl) rfl (fun p e s m args below meth c H locs ls X hw hl => ?_)
  obtain ⟨⟨hx, hb, -, -, -⟩, -⟩ := id X
  unfold g_X12_eye at hf
  refine lv_iload_n hx hb dX12_eye_0 rfl (lv_at hl 3 rfl) ?_
  refine r_if_ne (tgt := 13) X dX12_eye_1 (by decide) hf (fun hc hf => ?_) (fun hc hf => ?_)
  · refine lv_iload_n hx hb dX12_eye_13 rfl (lv_at hl 3 rfl) ?_
    refine lv_iconst (v := mI 1) hx hb dX12_eye_14 rfl ?_
    refine r_icmp_ne (tgt := 26) X dX12_eye_15 (by decide) hf (fun hc hf => ?_) (fun hc hf => ?_)
    · refine lv_iconst (v := mI 0) hx hb dX12_eye_26 rfl ?_
      exact w_X12_eye_b27 X hw (lv_sub hl [0, 1, 2] rfl) hf
    · refine lv_aload_n hx hb dX12_eye_18 rfl (lv_at hl 0 rfl) ?_
      refine lv_iload_n hx hb dX12_eye_19 rfl (lv_at hl 2 rfl) ?_
      refine r_cvi (rest := []) [.int (mI x2)] X hw (fun ra σa h => c_X12_apart l D cy ad bs F x2 σ ra σa  h) sh_86 rfl (by decide) rfl km_X12_apart kv_X12_apart lm_X12_453 dX12_eye_20 hl.1 rfl rfl (Nat.le_of_ble_eq_true rfl) ⟨by decide, by decide⟩ ⟨Nat.zero_le _, Nat.zero_le _⟩ hf (fun r1 σ2 _ hf H locs hw => ?_)
      refine lv_goto (tgt := 27) hx hb dX12_eye_23 (by decide) ?_
      exact w_X12_eye_b27 X hw (lv_sub hl [0, 1, 2] rfl) hf
  · refine lv_aload_n hx hb dX12_eye_4 rfl (lv_at hl 0 rfl) ?_
    refine lv_iload_n hx hb dX12_eye_5 rfl (lv_at hl 2 rfl) ?_
    refine r_cvi (rest := []) [.int (mI x2)] X hw (fun ra σa h => c_X12_apart l D cy ad bs F x2 σ ra σa  h) sh_86 rfl (by decide) rfl km_X12_apart kv_X12_apart lm_X12_453 dX12_eye_6 hl.1 rfl rfl (Nat.le_of_ble_eq_true rfl) ⟨by decide, by decide⟩ ⟨Nat.zero_le _, Nat.zero_le _⟩ hf (fun r3 σ4 _ hf H locs hw => ?_)
    refine r_ineg X dX12_eye_9 ?_
    refine lv_goto (tgt := 27) hx hb dX12_eye_10 (by decide) ?_
    exact w_X12_eye_b27 X hw (lv_sub hl [0, 1, 2] rfl) hf
def g_X12_who_h2 (F : Nat)  : Nat → Int → Int → Int → mMem → mRs
  | 0, _, _, _, _ => none
  | n + 1, x1, x2, x3, σ => if 0 ≤ mw (σ 86 13) ∧ mw (σ 86 13) < (2 : Int) then if mw (σ 91 (mw (σ 86 13)).toNat) ≤ mw x3 then (some ((-1), σ)) else (if 0 ≤ mw ((6 * x1) + x3) ∧ mw ((6 * x1) + x3) < (132 : Int) then if ¬ mw (σ 112 (mw ((6 * x1) + x3)).toNat) = mw x2 then ((g_X12_who_h2 F n) x1 x2 (x3 + 1) σ) else (some (x3, σ)) else none) else none
set_option maxRecDepth 100000 in
set_option maxHeartbeats 4000000 in
theorem w_X12_who_h2 {p : Program} {l : Launch} {e : Env} {s : State} {m : MethodId} {args : Array Value} {below : List Frame} {meth : Method} {c : Code} {D : va_G} {cy : Nat → ClassId} {ad : Nat → Nat} {bs : Nat} {F : Nat}  (X : mCx p m c cX12_who 4 s args RX12 meth D cy (some .int))  {r : Int} {σ' : mMem}   (n : Nat) : ∀ {x1 x2 x3 : Int} {σ : mMem} {H : Heap} {locs : List Loc} {ls : Array Slot} (_ : mWd D cy ad bs true mN σ s.heap H locs) (_ : lv_has ls 4 [(0, .ref (ad 86)), (1, .int (mI x1)), (2, .int (mI x2)), (3, .int (mI x3))]) (_ : g_X12_who_h2 F n x1 x2 x3 σ = some (r, σ')), mGi p l e 1 s m args below meth c D cy ad bs r σ' H locs (F0 m 2 ls []) := by
  obtain ⟨⟨hx, hb, -, -, -⟩, -⟩ := id X
  induction n with
  | zero =>
    intro x1 x2 x3 σ H locs ls hw hl hf
    unfold g_X12_who_h2 at hf
    cases hf
  | succ n ih =>
    have hk2 : ∀ (x1 x2 x3 : Int) (σ : mMem) (H : Heap) (locs : List Loc) (ls : Array Slot), mWd D cy ad bs true mN σ s.heap H locs → lv_has ls 4 [(0, .ref (ad 86)), (1, .int (mI x1)), (2, .int (mI x2)), (3, .int (mI x3))] → g_X12_who_h2 F n x1 x2 x3 σ = some (r, σ') → mGi p l e 1 s m args below meth c D cy ad bs r σ' H locs (F0 m 2 ls []) := fun x1 x2 x3 σ H locs ls hw hl hf => ih hw hl hf
    intro x1 x2 x3 σ H locs ls hw hl hf
    unfold g_X12_who_h2 at hf
    refine lv_iload_n hx hb dX12_who_2 rfl (lv_at hl 3 rfl) ?_
    refine lv_aload_n hx hb dX12_who_3 rfl (lv_at hl 0 rfl) ?_
    refine r_getr 91 X hw sh_86 fd_12_17 rfl rfl lf_X12_63 dX12_who_4 ?_
    refine lv_aload_n hx hb dX12_who_7 rfl (lv_at hl 0 rfl) ?_
    refine r_geti X hw sh_86 fd_12_13 rfl lf_X12_51 dX12_who_8 ?_
    refine r_iald (2 : Int) rfl X hw sh_91 dX12_who_11 hf (fun hf => ?_)
    refine r_icmp_ge (tgt := 38) X dX12_who_12 (by decide) hf (fun hc hf => ?_) (fun hc hf => ?_)
    · refine lv_iconst (v := mI (-1)) hx hb dX12_who_38 rfl ?_
      exact r_iret X hw dX12_who_39 hf
    · refine lv_aload_n hx hb dX12_who_15 rfl (lv_at hl 0 rfl) ?_
      refine r_getr 112 X hw sh_86 fd_12_45 rfl rfl lf_X12_150 dX12_who_16 ?_
      refine lv_bipush (v := mI 6) hx hb dX12_who_19 (by decide) ?_
      refine lv_iload_n hx hb dX12_who_21 rfl (lv_at hl 1 rfl) ?_
      refine r_imul X dX12_who_22 ?_
      refine lv_iload_n hx hb dX12_who_23 rfl (lv_at hl 3 rfl) ?_
      refine r_iadd X dX12_who_24 ?_
      refine r_iald (132 : Int) rfl X hw sh_112 dX12_who_25 hf (fun hf => ?_)
      refine lv_iload_n hx hb dX12_who_26 rfl (lv_at hl 2 rfl) ?_
      refine r_icmp_ne (tgt := 32) X dX12_who_27 (by decide) hf (fun hc hf => ?_) (fun hc hf => ?_)
      · refine lv_iinc (v := mI (x3 + 1)) (lv' := [(3, .int (mI (x3 + 1))), (0, .ref (ad 86)), (1, .int (mI x1)), (2, .int (mI x2))]) hx hb dX12_who_32 hl (k := 3) rfl (mI_add _ _) (by decide) rfl (fun ls hl => ?_)
        refine lv_goto (tgt := 2) hx hb dX12_who_35 (by decide) ?_
        exact hk2 x1 x2 (x3 + 1) σ _ _ _ hw (lv_sub hl [1, 2, 3, 0] rfl) hf
      · refine lv_iload_n hx hb dX12_who_30 rfl (lv_at hl 3 rfl) ?_
        exact r_iret X hw dX12_who_31 hf
def g_X12_who (F : Nat) (x1 x2 : Int) (σ : mMem) : mRs := g_X12_who_h2 F F x1 x2 0 σ
set_option maxRecDepth 100000 in
set_option maxHeartbeats 4000000 in
theorem c_X12_who (l : Launch) (D : va_G) (cy : Nat → ClassId) (ad : Nat → Nat) (bs : Nat) (F : Nat)  (x1 x2 : Int) (σ : mMem) (r : Int) (σ' : mMem)  (hf : g_X12_who F x1 x2 σ = some (r, σ')) : mCi l D cy ad bs yX12_who cX12_who 4 (some .int) 1 [.ref (ad 86), .int (mI x1), .int (mI x2)] σ r σ' := by
  refine mCi.of (lv := [(0, .ref (ad 86)), (1, .int (mI x1)), (2, .int (mI x2))]) km_X12_who.2.2.2.2.2 (Nat.le_of_ble_eq_true rfl) rfl (fun p e s m args below meth c H locs ls X hw hl => ?_)
  obtain ⟨⟨hx, hb, -, -, -⟩, -⟩ := id X
  unfold g_X12_who at hf
  refine lv_iconst (v := mI 0) hx hb dX12_who_0 rfl ?_
  refine lv_istore_n (lv' := [(3, .int (mI 0)), (0, .ref (ad 86)), (1, .int (mI x1)), (2, .int (mI x2))]) hx hb dX12_who_1 rfl hl (by decide) rfl (fun ls hl => ?_)
  exact w_X12_who_h2 X _ hw (lv_sub hl [1, 2, 3, 0] rfl) hf
def g_X12_writesDown_b62 (F : Nat)  (x1 x2 : Int) (σ : mMem) : mRs := if 0 ≤ mw x1 ∧ mw x1 < (22 : Int) then mlet (4 * ((60 * x1) + (σ 117 (mw x1).toNat))) (fun y102 => if 0 ≤ mw x1 ∧ mw x1 < (22 : Int) then if 0 ≤ mw y102 ∧ mw y102 < (5280 : Int) then mlm (mup σ 118 (mw y102).toNat (σ 110 (mw x1).toNat)) (fun σ103 => if 0 ≤ mw (y102 + 1) ∧ mw (y102 + 1) < (5280 : Int) then mlm (mup σ103 118 (mw (y102 + 1)).toNat x2) (fun σ104 => if 0 ≤ mw ((6 * x1) + x2) ∧ mw ((6 * x1) + x2) < (132 : Int) then if mw 9 = 0 then none else (if 0 ≤ mw (y102 + 2) ∧ mw (y102 + 2) < (5280 : Int) then mlm (mup σ104 118 (mw (y102 + 2)).toNat ((mw (σ104 112 (mw ((6 * x1) + x2)).toNat)).tmod (mw 9))) (fun σ105 => if 0 ≤ mw ((6 * x1) + x2) ∧ mw ((6 * x1) + x2) < (132 : Int) then if mw 9 = 0 then none else (if 0 ≤ mw (y102 + 3) ∧ mw (y102 + 3) < (5280 : Int) then mlm (mup σ105 118 (mw (y102 + 3)).toNat ((mw (σ105 112 (mw ((6 * x1) + x2)).toNat)).tdiv (mw 9))) (fun σ106 => if 0 ≤ mw x1 ∧ mw x1 < (22 : Int) then if 0 ≤ mw x1 ∧ mw x1 < (22 : Int) then mlm (mup σ106 117 (mw x1).toNat ((σ106 117 (mw x1).toNat) + 1)) (fun σ107 => some (0, σ107)) else none else none) else none) else none) else none) else none) else none) else none else none) else none
set_option maxRecDepth 100000 in
set_option maxHeartbeats 4000000 in
theorem w_X12_writesDown_b62 {p : Program} {l : Launch} {e : Env} {s : State} {m : MethodId} {args : Array Value} {below : List Frame} {meth : Method} {c : Code} {D : va_G} {cy : Nat → ClassId} {ad : Nat → Nat} {bs : Nat} {F : Nat}  (X : mCx p m c cX12_writesDown 4 s args RX12 meth D cy none)  {r : Int} {σ' : mMem}   {x1 x2 : Int} {σ : mMem} {H : Heap} {locs : List Loc} {ls : Array Slot} (hw : mWd D cy ad bs true mN σ s.heap H locs) (hl : lv_has ls 4 [(0, .ref (ad 86)), (1, .int (mI x1)), (2, .int (mI x2))]) (hf : g_X12_writesDown_b62 F x1 x2 σ = some (r, σ')) : mGv p l e 1 s m args below meth c D cy ad bs σ' H locs (F0 m 62 ls []) := by
  obtain ⟨⟨hx, hb, -, -, -⟩, -⟩ := id X
  unfold g_X12_writesDown_b62 at hf
  refine lv_iconst (v := mI 4) hx hb dX12_writesDown_62 rfl ?_
  refine lv_bipush (v := mI 60) hx hb dX12_writesDown_63 (by decide) ?_
  refine lv_iload_n hx hb dX12_writesDown_65 rfl (lv_at hl 1 rfl) ?_
  refine r_imul X dX12_writesDown_66 ?_
  refine lv_aload_n hx hb dX12_writesDown_67 rfl (lv_at hl 0 rfl) ?_
  refine r_getr 117 X hw sh_86 fd_12_50 rfl rfl lf_X12_165 dX12_writesDown_68 ?_
  refine lv_iload_n hx hb dX12_writesDown_71 rfl (lv_at hl 1 rfl) ?_
  refine r_iald (22 : Int) rfl X hw sh_117 dX12_writesDown_72 hf (fun hf => ?_)
  refine r_iadd X dX12_writesDown_73 ?_
  refine r_imul X dX12_writesDown_74 ?_
  refine r_leti hf (fun y102 hf => ?_)
  refine lv_istore_n (lv' := [(3, .int (mI y102)), (0, .ref (ad 86)), (1, .int (mI x1)), (2, .int (mI x2))]) hx hb dX12_writesDown_75 rfl hl (by decide) rfl (fun ls hl => ?_)
  refine lv_aload_n hx hb dX12_writesDown_76 rfl (lv_at hl 1 rfl) ?_
  refine r_getr 118 X hw sh_86 fd_12_51 rfl rfl lf_X12_168 dX12_writesDown_77 ?_
  refine lv_iload_n hx hb dX12_writesDown_80 rfl (lv_at hl 0 rfl) ?_
  refine lv_aload_n hx hb dX12_writesDown_81 rfl (lv_at hl 1 rfl) ?_
  refine r_getr 110 X hw sh_86 fd_12_43 rfl rfl lf_X12_144 dX12_writesDown_82 ?_
  refine lv_iload_n hx hb dX12_writesDown_85 rfl (lv_at hl 2 rfl) ?_
  refine r_iald (22 : Int) rfl X hw sh_110 dX12_writesDown_86 hf (fun hf => ?_)
  refine r_iast (5280 : Int) rfl X hw sh_118 dX12_writesDown_87 hf (fun hf H locs hw => ?_)
  refine r_mem hf hw (fun σ103 hw hf => ?_)
  refine lv_aload_n hx hb dX12_writesDown_88 rfl (lv_at hl 1 rfl) ?_
  refine r_getr 118 X hw sh_86 fd_12_51 rfl rfl lf_X12_168 dX12_writesDown_89 ?_
  refine lv_iload_n hx hb dX12_writesDown_92 rfl (lv_at hl 0 rfl) ?_
  refine lv_iconst (v := mI 1) hx hb dX12_writesDown_93 rfl ?_
  refine r_iadd X dX12_writesDown_94 ?_
  refine lv_iload_n hx hb dX12_writesDown_95 rfl (lv_at hl 3 rfl) ?_
  refine r_iast (5280 : Int) rfl X hw sh_118 dX12_writesDown_96 hf (fun hf H locs hw => ?_)
  refine r_mem hf hw (fun σ104 hw hf => ?_)
  refine lv_aload_n hx hb dX12_writesDown_97 rfl (lv_at hl 1 rfl) ?_
  refine r_getr 118 X hw sh_86 fd_12_51 rfl rfl lf_X12_168 dX12_writesDown_98 ?_
  refine lv_iload_n hx hb dX12_writesDown_101 rfl (lv_at hl 0 rfl) ?_
  refine lv_iconst (v := mI 2) hx hb dX12_writesDown_102 rfl ?_
  refine r_iadd X dX12_writesDown_103 ?_
  refine lv_aload_n hx hb dX12_writesDown_104 rfl (lv_at hl 1 rfl) ?_
  refine r_getr 112 X hw sh_86 fd_12_45 rfl rfl lf_X12_150 dX12_writesDown_105 ?_
  refine lv_bipush (v := mI 6) hx hb dX12_writesDown_108 (by decide) ?_
  refine lv_iload_n hx hb dX12_writesDown_110 rfl (lv_at hl 2 rfl) ?_
  refine r_imul X dX12_writesDown_111 ?_
  refine lv_iload_n hx hb dX12_writesDown_112 rfl (lv_at hl 3 rfl) ?_
  refine r_iadd X dX12_writesDown_113 ?_
  refine r_iald (132 : Int) rfl X hw sh_112 dX12_writesDown_114 hf (fun hf => ?_)
  refine lv_bipush (v := mI 9) hx hb dX12_writesDown_115 (by decide) ?_
  refine r_irem X dX12_writesDown_117 hf (fun hf => ?_)
  refine r_iast (5280 : Int) rfl X hw sh_118 dX12_writesDown_118 hf (fun hf H locs hw => ?_)
  refine r_mem hf hw (fun σ105 hw hf => ?_)
  refine lv_aload_n hx hb dX12_writesDown_119 rfl (lv_at hl 1 rfl) ?_
  refine r_getr 118 X hw sh_86 fd_12_51 rfl rfl lf_X12_168 dX12_writesDown_120 ?_
  refine lv_iload_n hx hb dX12_writesDown_123 rfl (lv_at hl 0 rfl) ?_
  refine lv_iconst (v := mI 3) hx hb dX12_writesDown_124 rfl ?_
  refine r_iadd X dX12_writesDown_125 ?_
  refine lv_aload_n hx hb dX12_writesDown_126 rfl (lv_at hl 1 rfl) ?_
  refine r_getr 112 X hw sh_86 fd_12_45 rfl rfl lf_X12_150 dX12_writesDown_127 ?_
  refine lv_bipush (v := mI 6) hx hb dX12_writesDown_130 (by decide) ?_
  refine lv_iload_n hx hb dX12_writesDown_132 rfl (lv_at hl 2 rfl) ?_
  refine r_imul X dX12_writesDown_133 ?_
  refine lv_iload_n hx hb dX12_writesDown_134 rfl (lv_at hl 3 rfl) ?_
  refine r_iadd X dX12_writesDown_135 ?_
  refine r_iald (132 : Int) rfl X hw sh_112 dX12_writesDown_136 hf (fun hf => ?_)
  refine lv_bipush (v := mI 9) hx hb dX12_writesDown_137 (by decide) ?_
  refine r_idiv X dX12_writesDown_139 hf (fun hf => ?_)
  refine r_iast (5280 : Int) rfl X hw sh_118 dX12_writesDown_140 hf (fun hf H locs hw => ?_)
  refine r_mem hf hw (fun σ106 hw hf => ?_)
  refine lv_aload_n hx hb dX12_writesDown_141 rfl (lv_at hl 1 rfl) ?_
  refine r_getr 117 X hw sh_86 fd_12_50 rfl rfl lf_X12_165 dX12_writesDown_142 ?_
  refine lv_iload_n hx hb dX12_writesDown_145 rfl (lv_at hl 2 rfl) ?_
  refine lv_dup2_11 hx hb dX12_writesDown_146 rfl rfl ?_
  refine r_iald (22 : Int) rfl X hw sh_117 dX12_writesDown_147 hf (fun hf => ?_)
  refine lv_iconst (v := mI 1) hx hb dX12_writesDown_148 rfl ?_
  refine r_iadd X dX12_writesDown_149 ?_
  refine r_iast (22 : Int) rfl X hw sh_117 dX12_writesDown_150 hf (fun hf H locs hw => ?_)
  refine r_mem hf hw (fun σ107 hw hf => ?_)
  exact r_vret X hw dX12_writesDown_151 hf
def g_X12_writesDown_h17 (F : Nat)  : Nat → Int → Int → Int → mMem → mRs
  | 0, _, _, _, _ => none
  | n + 1, x1, x2, x3, σ => if mw (((240 * x1) + 240) - 4) ≤ mw x3 then (if 0 ≤ mw x1 ∧ mw x1 < (22 : Int) then if 0 ≤ mw x1 ∧ mw x1 < (22 : Int) then mlm (mup σ 117 (mw x1).toNat ((σ 117 (mw x1).toNat) - 1)) (fun σ208 => g_X12_writesDown_b62 F x1 x2 σ208) else none else none) else (if 0 ≤ mw (x3 + 4) ∧ mw (x3 + 4) < (5280 : Int) then if 0 ≤ mw x3 ∧ mw x3 < (5280 : Int) then mlm (mup σ 118 (mw x3).toNat (σ 118 (mw (x3 + 4)).toNat)) (fun σ209 => (g_X12_writesDown_h17 F n) x1 x2 (x3 + 1) σ209) else none else none)
set_option maxRecDepth 100000 in
set_option maxHeartbeats 4000000 in
theorem w_X12_writesDown_h17 {p : Program} {l : Launch} {e : Env} {s : State} {m : MethodId} {args : Array Value} {below : List Frame} {meth : Method} {c : Code} {D : va_G} {cy : Nat → ClassId} {ad : Nat → Nat} {bs : Nat} {F : Nat}  (X : mCx p m c cX12_writesDown 4 s args RX12 meth D cy none)  {r : Int} {σ' : mMem}   (n : Nat) : ∀ {x1 x2 x3 : Int} {σ : mMem} {H : Heap} {locs : List Loc} {ls : Array Slot} (_ : mWd D cy ad bs true mN σ s.heap H locs) (_ : lv_has ls 4 [(0, .ref (ad 86)), (1, .int (mI x1)), (2, .int (mI x2)), (3, .int (mI x3))]) (_ : g_X12_writesDown_h17 F n x1 x2 x3 σ = some (r, σ')), mGv p l e 1 s m args below meth c D cy ad bs σ' H locs (F0 m 17 ls []) := by
  obtain ⟨⟨hx, hb, -, -, -⟩, -⟩ := id X
  induction n with
  | zero =>
    intro x1 x2 x3 σ H locs ls hw hl hf
    unfold g_X12_writesDown_h17 at hf
    cases hf
  | succ n ih =>
    have hk17 : ∀ (x1 x2 x3 : Int) (σ : mMem) (H : Heap) (locs : List Loc) (ls : Array Slot), mWd D cy ad bs true mN σ s.heap H locs → lv_has ls 4 [(0, .ref (ad 86)), (1, .int (mI x1)), (2, .int (mI x2)), (3, .int (mI x3))] → g_X12_writesDown_h17 F n x1 x2 x3 σ = some (r, σ') → mGv p l e 1 s m args below meth c D cy ad bs σ' H locs (F0 m 17 ls []) := fun x1 x2 x3 σ H locs ls hw hl hf => ih hw hl hf
    intro x1 x2 x3 σ H locs ls hw hl hf
    unfold g_X12_writesDown_h17 at hf
    refine lv_iload_n hx hb dX12_writesDown_17 rfl (lv_at hl 3 rfl) ?_
    refine lv_sipush (v := mI 240) hx hb dX12_writesDown_18 (by decide) ?_
    refine lv_iload_n hx hb dX12_writesDown_21 rfl (lv_at hl 1 rfl) ?_
    refine r_imul X dX12_writesDown_22 ?_
    refine lv_sipush (v := mI 240) hx hb dX12_writesDown_23 (by decide) ?_
    refine r_iadd X dX12_writesDown_26 ?_
    refine lv_iconst (v := mI 4) hx hb dX12_writesDown_27 rfl ?_
    refine r_isub X dX12_writesDown_28 ?_
    refine r_icmp_ge (tgt := 52) X dX12_writesDown_29 (by decide) hf (fun hc hf => ?_) (fun hc hf => ?_)
    · refine lv_aload_n hx hb dX12_writesDown_52 rfl (lv_at hl 0 rfl) ?_
      refine r_getr 117 X hw sh_86 fd_12_50 rfl rfl lf_X12_165 dX12_writesDown_53 ?_
      refine lv_iload_n hx hb dX12_writesDown_56 rfl (lv_at hl 1 rfl) ?_
      refine lv_dup2_11 hx hb dX12_writesDown_57 rfl rfl ?_
      refine r_iald (22 : Int) rfl X hw sh_117 dX12_writesDown_58 hf (fun hf => ?_)
      refine lv_iconst (v := mI 1) hx hb dX12_writesDown_59 rfl ?_
      refine r_isub X dX12_writesDown_60 ?_
      refine r_iast (22 : Int) rfl X hw sh_117 dX12_writesDown_61 hf (fun hf H locs hw => ?_)
      refine r_mem hf hw (fun σ208 hw hf => ?_)
      exact w_X12_writesDown_b62 X hw (lv_sub hl [0, 1, 2] rfl) hf
    · refine lv_aload_n hx hb dX12_writesDown_32 rfl (lv_at hl 0 rfl) ?_
      refine r_getr 118 X hw sh_86 fd_12_51 rfl rfl lf_X12_168 dX12_writesDown_33 ?_
      refine lv_iload_n hx hb dX12_writesDown_36 rfl (lv_at hl 3 rfl) ?_
      refine lv_aload_n hx hb dX12_writesDown_37 rfl (lv_at hl 0 rfl) ?_
      refine r_getr 118 X hw sh_86 fd_12_51 rfl rfl lf_X12_168 dX12_writesDown_38 ?_
      refine lv_iload_n hx hb dX12_writesDown_41 rfl (lv_at hl 3 rfl) ?_
      refine lv_iconst (v := mI 4) hx hb dX12_writesDown_42 rfl ?_
      refine r_iadd X dX12_writesDown_43 ?_
      refine r_iald (5280 : Int) rfl X hw sh_118 dX12_writesDown_44 hf (fun hf => ?_)
      refine r_iast (5280 : Int) rfl X hw sh_118 dX12_writesDown_45 hf (fun hf H locs hw => ?_)
      refine r_mem hf hw (fun σ209 hw hf => ?_)
      refine lv_iinc (v := mI (x3 + 1)) (lv' := [(3, .int (mI (x3 + 1))), (0, .ref (ad 86)), (1, .int (mI x1)), (2, .int (mI x2))]) hx hb dX12_writesDown_46 hl (k := 3) rfl (mI_add _ _) (by decide) rfl (fun ls hl => ?_)
      refine lv_goto (tgt := 17) hx hb dX12_writesDown_49 (by decide) ?_
      exact hk17 x1 x2 (x3 + 1) σ209 _ _ _ hw (lv_sub hl [1, 2, 3, 0] rfl) hf
def g_X12_writesDown (F : Nat) (x1 x2 : Int) (σ : mMem) : mRs := if 0 ≤ mw x1 ∧ mw x1 < (22 : Int) then if ¬ mw (σ 117 (mw x1).toNat) = mw 60 then (g_X12_writesDown_b62 F x1 x2 σ) else (mlet (240 * x1) (fun y1 => g_X12_writesDown_h17 F F x1 x2 y1 σ)) else none
set_option maxRecDepth 100000 in
set_option maxHeartbeats 4000000 in
theorem c_X12_writesDown (l : Launch) (D : va_G) (cy : Nat → ClassId) (ad : Nat → Nat) (bs : Nat) (F : Nat)  (x1 x2 : Int) (σ : mMem) (r : Int) (σ' : mMem)  (hf : g_X12_writesDown F x1 x2 σ = some (r, σ')) : mCv l D cy ad bs yX12_writesDown cX12_writesDown 4 none 1 [.ref (ad 86), .int (mI x1), .int (mI x2)] σ σ' := by
  refine mCv.of (lv := [(0, .ref (ad 86)), (1, .int (mI x1)), (2, .int (mI x2))]) km_X12_writesDown.2.2.2.2.2 (Nat.le_of_ble_eq_true rfl) rfl (fun p e s m args below meth c H locs ls X hw hl => ?_)
  obtain ⟨⟨hx, hb, -, -, -⟩, -⟩ := id X
  unfold g_X12_writesDown at hf
  refine lv_aload_n hx hb dX12_writesDown_0 rfl (lv_at hl 0 rfl) ?_
  refine r_getr 117 X hw sh_86 fd_12_50 rfl rfl lf_X12_165 dX12_writesDown_1 ?_
  refine lv_iload_n hx hb dX12_writesDown_4 rfl (lv_at hl 1 rfl) ?_
  refine r_iald (22 : Int) rfl X hw sh_117 dX12_writesDown_5 hf (fun hf => ?_)
  refine lv_bipush (v := mI 60) hx hb dX12_writesDown_6 (by decide) ?_
  refine r_icmp_ne (tgt := 62) X dX12_writesDown_8 (by decide) hf (fun hc hf => ?_) (fun hc hf => ?_)
  · exact w_X12_writesDown_b62 X hw (lv_sub hl [0, 1, 2] rfl) hf
  · refine lv_sipush (v := mI 240) hx hb dX12_writesDown_11 (by decide) ?_
    refine lv_iload_n hx hb dX12_writesDown_14 rfl (lv_at hl 1 rfl) ?_
    refine r_imul X dX12_writesDown_15 ?_
    refine r_leti hf (fun y1 hf => ?_)
    refine lv_istore_n (lv' := [(3, .int (mI y1)), (0, .ref (ad 86)), (1, .int (mI x1)), (2, .int (mI x2))]) hx hb dX12_writesDown_16 rfl hl (by decide) rfl (fun ls hl => ?_)
    exact w_X12_writesDown_h17 X _ hw (lv_sub hl [1, 2, 3, 0] rfl) hf
def g_X12_steers_b244 (F : Nat)  (t0 t1 t2 : Int) (σ : mMem) : mRs := if mw 4 = 0 then none else (if 0 ≤ mw t0 ∧ mw t0 < (132 : Int) then mlm (mup σ 113 (mw t0).toNat ((mw (t1 + t2)).tmod (mw 4))) (fun σ620 => some (0, σ620)) else none)
set_option maxRecDepth 100000 in
set_option maxHeartbeats 4000000 in
theorem w_X12_steers_b244 {p : Program} {l : Launch} {e : Env} {s : State} {m : MethodId} {args : Array Value} {below : List Frame} {meth : Method} {c : Code} {D : va_G} {cy : Nat → ClassId} {ad : Nat → Nat} {bs : Nat} {F : Nat}  (X : mCx p m c cX12_steers 7 s args RX12 meth D cy none)  {r : Int} {σ' : mMem}   {t0 t1 t2 : Int} {σ : mMem} {H : Heap} {locs : List Loc} {ls : Array Slot} (hw : mWd D cy ad bs true mN σ s.heap H locs) (hl : lv_has ls 7 [(0, .ref (ad 86))]) (hf : g_X12_steers_b244 F t0 t1 t2 σ = some (r, σ')) : mGv p l e 5 s m args below meth c D cy ad bs σ' H locs (F0 m 244 ls [.int (mI t2), .int (mI t1), .int (mI t0), .ref (ad 113)]) := by
  obtain ⟨⟨hx, hb, -, -, -⟩, -⟩ := id X
  unfold g_X12_steers_b244 at hf
  refine r_iadd X dX12_steers_244 ?_
  refine lv_iconst (v := mI 4) hx hb dX12_steers_245 rfl ?_
  refine r_irem X dX12_steers_246 hf (fun hf => ?_)
  refine r_iast (132 : Int) rfl X hw sh_113 dX12_steers_247 hf (fun hf H locs hw => ?_)
  refine r_mem hf hw (fun σ620 hw hf => ?_)
  exact r_vret X hw dX12_steers_248 hf
def g_X12_steers_b196 (F : Nat)  (x3 x5 t0 t1 : Int) (σ : mMem) : mRs := if 0 ≤ mw t0 ∧ mw t0 < (12 : Int) then mlm (mup σ 120 (mw t0).toNat t1) (fun σ518 => if 0 ≤ mw x3 ∧ mw x3 < (132 : Int) then if 0 ≤ mw 7 ∧ mw 7 < (12 : Int) then mlm (mup σ518 120 (mw 7).toNat (σ518 114 (mw x3).toNat)) (fun σ519 => if 0 ≤ mw x3 ∧ mw x3 < (132 : Int) then if mwl x5 ≤ mwl 0 then (if mwl 0 ≤ mwl x5 then (g_X12_steers_b244 F x3 (σ519 113 (mw x3).toNat) 0 σ519) else (g_X12_steers_b244 F x3 (σ519 113 (mw x3).toNat) 3 σ519)) else (g_X12_steers_b244 F x3 (σ519 113 (mw x3).toNat) 1 σ519) else none) else none else none) else none
set_option maxRecDepth 100000 in
set_option maxHeartbeats 4000000 in
theorem w_X12_steers_b196 {p : Program} {l : Launch} {e : Env} {s : State} {m : MethodId} {args : Array Value} {below : List Frame} {meth : Method} {c : Code} {D : va_G} {cy : Nat → ClassId} {ad : Nat → Nat} {bs : Nat} {F : Nat}  (X : mCx p m c cX12_steers 7 s args RX12 meth D cy none)  {r : Int} {σ' : mMem}   {x3 x5 t0 t1 : Int} {σ : mMem} {H : Heap} {locs : List Loc} {ls : Array Slot} (hw : mWd D cy ad bs true mN σ s.heap H locs) (hl : lv_has ls 7 [(0, .ref (ad 86)), (3, .int (mI x3)), (5, .long (mL x5))]) (hf : g_X12_steers_b196 F x3 x5 t0 t1 σ = some (r, σ')) : mGv p l e 5 s m args below meth c D cy ad bs σ' H locs (F0 m 196 ls [.int (mI t1), .int (mI t0), .ref (ad 120)]) := by
  obtain ⟨⟨hx, hb, -, -, -⟩, -⟩ := id X
  unfold g_X12_steers_b196 at hf
  refine r_iast (12 : Int) rfl X hw sh_120 dX12_steers_196 hf (fun hf H locs hw => ?_)
  refine r_mem hf hw (fun σ518 hw hf => ?_)
  refine lv_aload_n hx hb dX12_steers_197 rfl (lv_at hl 0 rfl) ?_
  refine r_getr 120 X hw sh_86 fd_12_56 rfl rfl lf_X12_183 dX12_steers_198 ?_
  refine lv_bipush (v := mI 7) hx hb dX12_steers_201 (by decide) ?_
  refine lv_aload_n hx hb dX12_steers_203 rfl (lv_at hl 0 rfl) ?_
  refine r_getr 114 X hw sh_86 fd_12_47 rfl rfl lf_X12_156 dX12_steers_204 ?_
  refine lv_iload_n hx hb dX12_steers_207 rfl (lv_at hl 1 rfl) ?_
  refine r_iald (132 : Int) rfl X hw sh_114 dX12_steers_208 hf (fun hf => ?_)
  refine r_iast (12 : Int) rfl X hw sh_120 dX12_steers_209 hf (fun hf H locs hw => ?_)
  refine r_mem hf hw (fun σ519 hw hf => ?_)
  refine lv_aload_n hx hb dX12_steers_210 rfl (lv_at hl 0 rfl) ?_
  refine r_getr 113 X hw sh_86 fd_12_46 rfl rfl lf_X12_153 dX12_steers_211 ?_
  refine lv_iload_n hx hb dX12_steers_214 rfl (lv_at hl 1 rfl) ?_
  refine lv_aload_n hx hb dX12_steers_215 rfl (lv_at hl 0 rfl) ?_
  refine r_getr 113 X hw sh_86 fd_12_46 rfl rfl lf_X12_153 dX12_steers_216 ?_
  refine lv_iload_n hx hb dX12_steers_219 rfl (lv_at hl 1 rfl) ?_
  refine r_iald (132 : Int) rfl X hw sh_113 dX12_steers_220 hf (fun hf => ?_)
  refine lv_lload hx hb dX12_steers_221 (lv_at hl 2 rfl) ?_
  refine lv_lconst (v := mL 0) hx hb dX12_steers_223 (by decide) ?_
  refine r_lcmp_le (tgt := 232) X dX12_steers_224 dX12_steers_225 (by decide) hf (fun hc hf => ?_) (fun hc hf => ?_)
  · refine lv_lload hx hb dX12_steers_232 (lv_at hl 2 rfl) ?_
    refine lv_lconst (v := mL 0) hx hb dX12_steers_234 (by decide) ?_
    refine r_lcmp_ge (tgt := 243) X dX12_steers_235 dX12_steers_236 (by decide) hf (fun hc hf => ?_) (fun hc hf => ?_)
    · refine lv_iconst (v := mI 0) hx hb dX12_steers_243 rfl ?_
      exact w_X12_steers_b244 X hw (lv_sub hl [0] rfl) hf
    · refine lv_iconst (v := mI 3) hx hb dX12_steers_239 rfl ?_
      refine lv_goto (tgt := 244) hx hb dX12_steers_240 (by decide) ?_
      exact w_X12_steers_b244 X hw (lv_sub hl [0] rfl) hf
  · refine lv_iconst (v := mI 1) hx hb dX12_steers_228 rfl ?_
    refine lv_goto (tgt := 244) hx hb dX12_steers_229 (by decide) ?_
    exact w_X12_steers_b244 X hw (lv_sub hl [0] rfl) hf
def g_X12_steers_b176 (F : Nat)  (x3 t0 : Int) (σ : mMem) : mRs := if ¬ mwl t0 = mwl 0 then (g_X12_steers_b196 F x3 t0 6 1 σ) else (g_X12_steers_b196 F x3 t0 6 0 σ)
set_option maxRecDepth 100000 in
set_option maxHeartbeats 4000000 in
theorem w_X12_steers_b176 {p : Program} {l : Launch} {e : Env} {s : State} {m : MethodId} {args : Array Value} {below : List Frame} {meth : Method} {c : Code} {D : va_G} {cy : Nat → ClassId} {ad : Nat → Nat} {bs : Nat} {F : Nat}  (X : mCx p m c cX12_steers 7 s args RX12 meth D cy none)  {r : Int} {σ' : mMem}   {x3 t0 : Int} {σ : mMem} {H : Heap} {locs : List Loc} {ls : Array Slot} (hw : mWd D cy ad bs true mN σ s.heap H locs) (hl : lv_has ls 7 [(0, .ref (ad 86)), (3, .int (mI x3))]) (hf : g_X12_steers_b176 F x3 t0 σ = some (r, σ')) : mGv p l e 5 s m args below meth c D cy ad bs σ' H locs (F0 m 176 ls [.long (mL t0)]) := by
  obtain ⟨⟨hx, hb, -, -, -⟩, -⟩ := id X
  unfold g_X12_steers_b176 at hf
  refine lv_lstore (lv' := [(5, .long (mL t0)), (0, .ref (ad 86)), (3, .int (mI x3))]) hx hb dX12_steers_176 hl (by decide) rfl (fun ls hl => ?_)
  refine lv_aload_n hx hb dX12_steers_178 rfl (lv_at hl 1 rfl) ?_
  refine r_getr 120 X hw sh_86 fd_12_56 rfl rfl lf_X12_183 dX12_steers_179 ?_
  refine lv_bipush (v := mI 6) hx hb dX12_steers_182 (by decide) ?_
  refine lv_lload hx hb dX12_steers_184 (lv_at hl 0 rfl) ?_
  refine lv_lconst (v := mL 0) hx hb dX12_steers_186 (by decide) ?_
  refine r_lcmp_ne (tgt := 195) X dX12_steers_187 dX12_steers_188 (by decide) hf (fun hc hf => ?_) (fun hc hf => ?_)
  · refine lv_iconst (v := mI 1) hx hb dX12_steers_195 rfl ?_
    exact w_X12_steers_b196 X hw (lv_sub hl [1, 2, 0] rfl) hf
  · refine lv_iconst (v := mI 0) hx hb dX12_steers_191 rfl ?_
    refine lv_goto (tgt := 196) hx hb dX12_steers_192 (by decide) ?_
    exact w_X12_steers_b196 X hw (lv_sub hl [1, 2, 0] rfl) hf
def g_X12_steers_b121 (F : Nat)  (x1 x3 t0 t1 : Int) (σ : mMem) : mRs := if 0 ≤ mw t0 ∧ mw t0 < (132 : Int) then mlm (mup σ 115 (mw t0).toNat t1) (fun σ311 => if 0 ≤ mw x3 ∧ mw x3 < (132 : Int) then if 0 ≤ mw 4 ∧ mw 4 < (12 : Int) then mlm (mup σ311 120 (mw 4).toNat (σ311 115 (mw x3).toNat)) (fun σ312 => if 0 ≤ mw x1 ∧ mw x1 < (22 : Int) then if 0 ≤ mw 5 ∧ mw 5 < (12 : Int) then mlm (mup σ312 120 (mw 5).toNat (σ312 110 (mw x1).toNat)) (fun σ313 => mob (g_X12_isTold F 0 σ313) (fun r314 σ315 => if mw r314 = 0 then (if 0 ≤ mw 2 ∧ mw 2 < (12 : Int) then if 0 ≤ mw 1 ∧ mw 1 < (12 : Int) then g_X12_steers_b176 F x3 (mw ((σ315 120 (mw 2).toNat) - (σ315 120 (mw 1).toNat))) σ315 else none else none) else (mob (g_X12_reckons F 0 σ315) (fun r316 σ317 => g_X12_steers_b176 F x3 r316 σ317)))) else none else none) else none else none) else none
set_option maxRecDepth 100000 in
set_option maxHeartbeats 4000000 in
theorem w_X12_steers_b121 {p : Program} {l : Launch} {e : Env} {s : State} {m : MethodId} {args : Array Value} {below : List Frame} {meth : Method} {c : Code} {D : va_G} {cy : Nat → ClassId} {ad : Nat → Nat} {bs : Nat} {F : Nat}  (X : mCx p m c cX12_steers 7 s args RX12 meth D cy none)  {r : Int} {σ' : mMem}   {x1 x3 t0 t1 : Int} {σ : mMem} {H : Heap} {locs : List Loc} {ls : Array Slot} (hw : mWd D cy ad bs true mN σ s.heap H locs) (hl : lv_has ls 7 [(0, .ref (ad 86)), (1, .int (mI x1)), (3, .int (mI x3))]) (hf : g_X12_steers_b121 F x1 x3 t0 t1 σ = some (r, σ')) : mGv p l e 5 s m args below meth c D cy ad bs σ' H locs (F0 m 121 ls [.int (mI t1), .int (mI t0), .ref (ad 115)]) := by
  obtain ⟨⟨hx, hb, -, -, -⟩, -⟩ := id X
  unfold g_X12_steers_b121 at hf
  refine r_iast (132 : Int) rfl X hw sh_115 dX12_steers_121 hf (fun hf H locs hw => ?_)
  refine r_mem hf hw (fun σ311 hw hf => ?_)
  refine lv_aload_n hx hb dX12_steers_122 rfl (lv_at hl 0 rfl) ?_
  refine r_getr 120 X hw sh_86 fd_12_56 rfl rfl lf_X12_183 dX12_steers_123 ?_
  refine lv_iconst (v := mI 4) hx hb dX12_steers_126 rfl ?_
  refine lv_aload_n hx hb dX12_steers_127 rfl (lv_at hl 0 rfl) ?_
  refine r_getr 115 X hw sh_86 fd_12_48 rfl rfl lf_X12_159 dX12_steers_128 ?_
  refine lv_iload_n hx hb dX12_steers_131 rfl (lv_at hl 2 rfl) ?_
  refine r_iald (132 : Int) rfl X hw sh_115 dX12_steers_132 hf (fun hf => ?_)
  refine r_iast (12 : Int) rfl X hw sh_120 dX12_steers_133 hf (fun hf H locs hw => ?_)
  refine r_mem hf hw (fun σ312 hw hf => ?_)
  refine lv_aload_n hx hb dX12_steers_134 rfl (lv_at hl 0 rfl) ?_
  refine r_getr 120 X hw sh_86 fd_12_56 rfl rfl lf_X12_183 dX12_steers_135 ?_
  refine lv_iconst (v := mI 5) hx hb dX12_steers_138 rfl ?_
  refine lv_aload_n hx hb dX12_steers_139 rfl (lv_at hl 0 rfl) ?_
  refine r_getr 110 X hw sh_86 fd_12_43 rfl rfl lf_X12_144 dX12_steers_140 ?_
  refine lv_iload_n hx hb dX12_steers_143 rfl (lv_at hl 1 rfl) ?_
  refine r_iald (22 : Int) rfl X hw sh_110 dX12_steers_144 hf (fun hf => ?_)
  refine r_iast (12 : Int) rfl X hw sh_120 dX12_steers_145 hf (fun hf H locs hw => ?_)
  refine r_mem hf hw (fun σ313 hw hf => ?_)
  refine lv_aload_n hx hb dX12_steers_146 rfl (lv_at hl 0 rfl) ?_
  refine lv_iconst (v := mI 0) hx hb dX12_steers_147 rfl ?_
  refine r_cvi (rest := []) [.int (mI 0)] X hw (fun ra σa h => c_X12_isTold l D cy ad bs F 0 σ313 ra σa  h) sh_86 rfl (by decide) rfl km_X12_isTold kv_X12_isTold lm_X12_467 dX12_steers_148 hl.1 rfl rfl (Nat.le_of_ble_eq_true rfl) ⟨by decide, by decide⟩ ⟨Nat.zero_le _, Nat.zero_le _⟩ hf (fun r314 σ315 _ hf H locs hw => ?_)
  refine r_if_eq (tgt := 162) X dX12_steers_151 (by decide) hf (fun hc hf => ?_) (fun hc hf => ?_)
  · refine lv_aload_n hx hb dX12_steers_162 rfl (lv_at hl 0 rfl) ?_
    refine r_getr 120 X hw sh_86 fd_12_56 rfl rfl lf_X12_183 dX12_steers_163 ?_
    refine lv_iconst (v := mI 2) hx hb dX12_steers_166 rfl ?_
    refine r_iald (12 : Int) rfl X hw sh_120 dX12_steers_167 hf (fun hf => ?_)
    refine lv_aload_n hx hb dX12_steers_168 rfl (lv_at hl 0 rfl) ?_
    refine r_getr 120 X hw sh_86 fd_12_56 rfl rfl lf_X12_183 dX12_steers_169 ?_
    refine lv_iconst (v := mI 1) hx hb dX12_steers_172 rfl ?_
    refine r_iald (12 : Int) rfl X hw sh_120 dX12_steers_173 hf (fun hf => ?_)
    refine r_isub X dX12_steers_174 ?_
    refine r_i2l X dX12_steers_175 ?_
    exact w_X12_steers_b176 X hw (lv_sub hl [0, 2] rfl) hf
  · refine lv_aload_n hx hb dX12_steers_154 rfl (lv_at hl 0 rfl) ?_
    refine lv_iconst (v := mI 0) hx hb dX12_steers_155 rfl ?_
    refine r_cvl (rest := []) [.int (mI 0)] X hw (fun ra σa h => c_X12_reckons l D cy ad bs F 0 σ315 ra σa  h) sh_86 rfl (by decide) rfl km_X12_reckons kv_X12_reckons lm_X12_470 dX12_steers_156 hl.1 rfl rfl (Nat.le_of_ble_eq_true rfl) ⟨by decide, by decide⟩ ⟨Nat.zero_le _, Nat.zero_le _⟩ hf (fun r316 σ317 _ hf H locs hw => ?_)
    refine lv_goto (tgt := 176) hx hb dX12_steers_159 (by decide) ?_
    exact w_X12_steers_b176 X hw (lv_sub hl [0, 2] rfl) hf
def g_X12_steers_b81 (F : Nat)  (x1 x3 t0 : Int) (σ : mMem) : mRs := if mw t0 = 0 then (if 0 ≤ mw x3 ∧ mw x3 < (132 : Int) then if mw 99 ≤ mw (σ 115 (mw x3).toNat) then (g_X12_steers_b121 F x1 x3 x3 99 σ) else (if 0 ≤ mw x3 ∧ mw x3 < (132 : Int) then g_X12_steers_b121 F x1 x3 x3 ((σ 115 (mw x3).toNat) + 1) σ else none) else none) else (g_X12_steers_b121 F x1 x3 x3 0 σ)
set_option maxRecDepth 100000 in
set_option maxHeartbeats 4000000 in
theorem w_X12_steers_b81 {p : Program} {l : Launch} {e : Env} {s : State} {m : MethodId} {args : Array Value} {below : List Frame} {meth : Method} {c : Code} {D : va_G} {cy : Nat → ClassId} {ad : Nat → Nat} {bs : Nat} {F : Nat}  (X : mCx p m c cX12_steers 7 s args RX12 meth D cy none)  {r : Int} {σ' : mMem}   {x1 x3 t0 : Int} {σ : mMem} {H : Heap} {locs : List Loc} {ls : Array Slot} (hw : mWd D cy ad bs true mN σ s.heap H locs) (hl : lv_has ls 7 [(0, .ref (ad 86)), (1, .int (mI x1)), (3, .int (mI x3))]) (hf : g_X12_steers_b81 F x1 x3 t0 σ = some (r, σ')) : mGv p l e 5 s m args below meth c D cy ad bs σ' H locs (F0 m 81 ls [.int (mI t0)]) := by
  obtain ⟨⟨hx, hb, -, -, -⟩, -⟩ := id X
  unfold g_X12_steers_b81 at hf
  refine lv_istore (lv' := [(4, .int (mI t0)), (0, .ref (ad 86)), (1, .int (mI x1)), (3, .int (mI x3))]) hx hb dX12_steers_81 hl (by decide) rfl (fun ls hl => ?_)
  refine lv_aload_n hx hb dX12_steers_83 rfl (lv_at hl 1 rfl) ?_
  refine r_getr 115 X hw sh_86 fd_12_48 rfl rfl lf_X12_159 dX12_steers_84 ?_
  refine lv_iload_n hx hb dX12_steers_87 rfl (lv_at hl 3 rfl) ?_
  refine lv_iload hx hb dX12_steers_88 (lv_at hl 0 rfl) ?_
  refine r_if_eq (tgt := 97) X dX12_steers_90 (by decide) hf (fun hc hf => ?_) (fun hc hf => ?_)
  · refine lv_aload_n hx hb dX12_steers_97 rfl (lv_at hl 1 rfl) ?_
    refine r_getr 115 X hw sh_86 fd_12_48 rfl rfl lf_X12_159 dX12_steers_98 ?_
    refine lv_iload_n hx hb dX12_steers_101 rfl (lv_at hl 3 rfl) ?_
    refine r_iald (132 : Int) rfl X hw sh_115 dX12_steers_102 hf (fun hf => ?_)
    refine lv_bipush (v := mI 99) hx hb dX12_steers_103 (by decide) ?_
    refine r_icmp_ge (tgt := 119) X dX12_steers_105 (by decide) hf (fun hc hf => ?_) (fun hc hf => ?_)
    · refine lv_bipush (v := mI 99) hx hb dX12_steers_119 (by decide) ?_
      exact w_X12_steers_b121 X hw (lv_sub hl [1, 2, 3] rfl) hf
    · refine lv_aload_n hx hb dX12_steers_108 rfl (lv_at hl 1 rfl) ?_
      refine r_getr 115 X hw sh_86 fd_12_48 rfl rfl lf_X12_159 dX12_steers_109 ?_
      refine lv_iload_n hx hb dX12_steers_112 rfl (lv_at hl 3 rfl) ?_
      refine r_iald (132 : Int) rfl X hw sh_115 dX12_steers_113 hf (fun hf => ?_)
      refine lv_iconst (v := mI 1) hx hb dX12_steers_114 rfl ?_
      refine r_iadd X dX12_steers_115 ?_
      refine lv_goto (tgt := 121) hx hb dX12_steers_116 (by decide) ?_
      exact w_X12_steers_b121 X hw (lv_sub hl [1, 2, 3] rfl) hf
  · refine lv_iconst (v := mI 0) hx hb dX12_steers_93 rfl ?_
    refine lv_goto (tgt := 121) hx hb dX12_steers_94 (by decide) ?_
    exact w_X12_steers_b121 X hw (lv_sub hl [1, 2, 3] rfl) hf
def g_X12_steers_b76 (F : Nat)  (x1 x3 : Int) (σ : mMem) : mRs := g_X12_steers_b81 F x1 x3 1 σ
set_option maxRecDepth 100000 in
set_option maxHeartbeats 4000000 in
theorem w_X12_steers_b76 {p : Program} {l : Launch} {e : Env} {s : State} {m : MethodId} {args : Array Value} {below : List Frame} {meth : Method} {c : Code} {D : va_G} {cy : Nat → ClassId} {ad : Nat → Nat} {bs : Nat} {F : Nat}  (X : mCx p m c cX12_steers 7 s args RX12 meth D cy none)  {r : Int} {σ' : mMem}   {x1 x3 : Int} {σ : mMem} {H : Heap} {locs : List Loc} {ls : Array Slot} (hw : mWd D cy ad bs true mN σ s.heap H locs) (hl : lv_has ls 7 [(0, .ref (ad 86)), (1, .int (mI x1)), (3, .int (mI x3))]) (hf : g_X12_steers_b76 F x1 x3 σ = some (r, σ')) : mGv p l e 5 s m args below meth c D cy ad bs σ' H locs (F0 m 76 ls []) := by
  obtain ⟨⟨hx, hb, -, -, -⟩, -⟩ := id X
  unfold g_X12_steers_b76 at hf
  refine lv_iconst (v := mI 1) hx hb dX12_steers_76 rfl ?_
  refine lv_goto (tgt := 81) hx hb dX12_steers_77 (by decide) ?_
  exact w_X12_steers_b81 X hw (lv_sub hl [0, 1, 2] rfl) hf
def g_X12_steers (F : Nat) (x1 x2 : Int) (σ : mMem) : mRs := mlet ((6 * x1) + x2) (fun y1 => mob (g_X12_eye F x1 x2 0 σ) (fun r2 σ3 => if 0 ≤ mw 1 ∧ mw 1 < (12 : Int) then mlm (mup σ3 120 (mw 1).toNat r2) (fun σ4 => mob (g_X12_eye F x1 x2 1 σ4) (fun r5 σ6 => if 0 ≤ mw 2 ∧ mw 2 < (12 : Int) then mlm (mup σ6 120 (mw 2).toNat r5) (fun σ7 => mob (g_X12_eye F x1 x2 2 σ7) (fun r8 σ9 => if 0 ≤ mw 3 ∧ mw 3 < (12 : Int) then mlm (mup σ9 120 (mw 3).toNat r8) (fun σ10 => if 0 ≤ mw 1 ∧ mw 1 < (12 : Int) then if mw 5 ≤ mw (σ10 120 (mw 1).toNat) then (g_X12_steers_b76 F x1 y1 σ10) else (if 0 ≤ mw 2 ∧ mw 2 < (12 : Int) then if mw 5 ≤ mw (σ10 120 (mw 2).toNat) then (g_X12_steers_b76 F x1 y1 σ10) else (if 0 ≤ mw 3 ∧ mw 3 < (12 : Int) then if mw (σ10 120 (mw 3).toNat) < mw 5 then (g_X12_steers_b81 F x1 y1 0 σ10) else (g_X12_steers_b76 F x1 y1 σ10) else none) else none) else none) else none)) else none)) else none))
set_option maxRecDepth 100000 in
set_option maxHeartbeats 4000000 in
theorem c_X12_steers (l : Launch) (D : va_G) (cy : Nat → ClassId) (ad : Nat → Nat) (bs : Nat) (F : Nat)  (x1 x2 : Int) (σ : mMem) (r : Int) (σ' : mMem)  (hf : g_X12_steers F x1 x2 σ = some (r, σ')) : mCv l D cy ad bs yX12_steers cX12_steers 7 none 5 [.ref (ad 86), .int (mI x1), .int (mI x2)] σ σ' := by
  refine mCv.of (lv := [(0, .ref (ad 86)), (1, .int (mI x1)), (2, .int (mI x2))]) km_X12_steers.2.2.2.2.2 (Nat.le_of_ble_eq_true rfl) rfl (fun p e s m args below meth c H locs ls X hw hl => ?_)
  obtain ⟨⟨hx, hb, -, -, -⟩, -⟩ := id X
  unfold g_X12_steers at hf
  refine lv_bipush (v := mI 6) hx hb dX12_steers_0 (by decide) ?_
  refine lv_iload_n hx hb dX12_steers_2 rfl (lv_at hl 1 rfl) ?_
  refine r_imul X dX12_steers_3 ?_
  refine lv_iload_n hx hb dX12_steers_4 rfl (lv_at hl 2 rfl) ?_
  refine r_iadd X dX12_steers_5 ?_
  refine r_leti hf (fun y1 hf => ?_)
  refine lv_istore_n (lv' := [(3, .int (mI y1)), (0, .ref (ad 86)), (1, .int (mI x1)), (2, .int (mI x2))]) hx hb dX12_steers_6 rfl hl (by decide) rfl (fun ls hl => ?_)
  refine lv_aload_n hx hb dX12_steers_7 rfl (lv_at hl 1 rfl) ?_
  refine r_getr 120 X hw sh_86 fd_12_56 rfl rfl lf_X12_183 dX12_steers_8 ?_
  refine lv_iconst (v := mI 1) hx hb dX12_steers_11 rfl ?_
  refine lv_aload_n hx hb dX12_steers_12 rfl (lv_at hl 1 rfl) ?_
  refine lv_iload_n hx hb dX12_steers_13 rfl (lv_at hl 2 rfl) ?_
  refine lv_iload_n hx hb dX12_steers_14 rfl (lv_at hl 3 rfl) ?_
  refine lv_iconst (v := mI 0) hx hb dX12_steers_15 rfl ?_
  refine r_cvi (rest := [.int (mI 1), .ref (ad 120)]) [.int (mI x1), .int (mI x2), .int (mI 0)] X hw (fun ra σa h => c_X12_eye l D cy ad bs F x1 x2 0 σ ra σa  h) sh_86 rfl (by decide) rfl km_X12_eye kv_X12_eye lm_X12_463 dX12_steers_16 hl.1 rfl rfl (Nat.le_of_ble_eq_true rfl) ⟨by decide, by decide⟩ ⟨Nat.zero_le _, Nat.zero_le _⟩ hf (fun r2 σ3 _ hf H locs hw => ?_)
  refine r_iast (12 : Int) rfl X hw sh_120 dX12_steers_19 hf (fun hf H locs hw => ?_)
  refine r_mem hf hw (fun σ4 hw hf => ?_)
  refine lv_aload_n hx hb dX12_steers_20 rfl (lv_at hl 1 rfl) ?_
  refine r_getr 120 X hw sh_86 fd_12_56 rfl rfl lf_X12_183 dX12_steers_21 ?_
  refine lv_iconst (v := mI 2) hx hb dX12_steers_24 rfl ?_
  refine lv_aload_n hx hb dX12_steers_25 rfl (lv_at hl 1 rfl) ?_
  refine lv_iload_n hx hb dX12_steers_26 rfl (lv_at hl 2 rfl) ?_
  refine lv_iload_n hx hb dX12_steers_27 rfl (lv_at hl 3 rfl) ?_
  refine lv_iconst (v := mI 1) hx hb dX12_steers_28 rfl ?_
  refine r_cvi (rest := [.int (mI 2), .ref (ad 120)]) [.int (mI x1), .int (mI x2), .int (mI 1)] X hw (fun ra σa h => c_X12_eye l D cy ad bs F x1 x2 1 σ4 ra σa  h) sh_86 rfl (by decide) rfl km_X12_eye kv_X12_eye lm_X12_463 dX12_steers_29 hl.1 rfl rfl (Nat.le_of_ble_eq_true rfl) ⟨by decide, by decide⟩ ⟨Nat.zero_le _, Nat.zero_le _⟩ hf (fun r5 σ6 _ hf H locs hw => ?_)
  refine r_iast (12 : Int) rfl X hw sh_120 dX12_steers_32 hf (fun hf H locs hw => ?_)
  refine r_mem hf hw (fun σ7 hw hf => ?_)
  refine lv_aload_n hx hb dX12_steers_33 rfl (lv_at hl 1 rfl) ?_
  refine r_getr 120 X hw sh_86 fd_12_56 rfl rfl lf_X12_183 dX12_steers_34 ?_
  refine lv_iconst (v := mI 3) hx hb dX12_steers_37 rfl ?_
  refine lv_aload_n hx hb dX12_steers_38 rfl (lv_at hl 1 rfl) ?_
  refine lv_iload_n hx hb dX12_steers_39 rfl (lv_at hl 2 rfl) ?_
  refine lv_iload_n hx hb dX12_steers_40 rfl (lv_at hl 3 rfl) ?_
  refine lv_iconst (v := mI 2) hx hb dX12_steers_41 rfl ?_
  refine r_cvi (rest := [.int (mI 3), .ref (ad 120)]) [.int (mI x1), .int (mI x2), .int (mI 2)] X hw (fun ra σa h => c_X12_eye l D cy ad bs F x1 x2 2 σ7 ra σa  h) sh_86 rfl (by decide) rfl km_X12_eye kv_X12_eye lm_X12_463 dX12_steers_42 hl.1 rfl rfl (Nat.le_of_ble_eq_true rfl) ⟨by decide, by decide⟩ ⟨Nat.zero_le _, Nat.zero_le _⟩ hf (fun r8 σ9 _ hf H locs hw => ?_)
  refine r_iast (12 : Int) rfl X hw sh_120 dX12_steers_45 hf (fun hf H locs hw => ?_)
  refine r_mem hf hw (fun σ10 hw hf => ?_)
  refine lv_aload_n hx hb dX12_steers_46 rfl (lv_at hl 1 rfl) ?_
  refine r_getr 120 X hw sh_86 fd_12_56 rfl rfl lf_X12_183 dX12_steers_47 ?_
  refine lv_iconst (v := mI 1) hx hb dX12_steers_50 rfl ?_
  refine r_iald (12 : Int) rfl X hw sh_120 dX12_steers_51 hf (fun hf => ?_)
  refine lv_iconst (v := mI 5) hx hb dX12_steers_52 rfl ?_
  refine r_icmp_ge (tgt := 76) X dX12_steers_53 (by decide) hf (fun hc hf => ?_) (fun hc hf => ?_)
  · exact w_X12_steers_b76 X hw (lv_sub hl [1, 2, 0] rfl) hf
  · refine lv_aload_n hx hb dX12_steers_56 rfl (lv_at hl 1 rfl) ?_
    refine r_getr 120 X hw sh_86 fd_12_56 rfl rfl lf_X12_183 dX12_steers_57 ?_
    refine lv_iconst (v := mI 2) hx hb dX12_steers_60 rfl ?_
    refine r_iald (12 : Int) rfl X hw sh_120 dX12_steers_61 hf (fun hf => ?_)
    refine lv_iconst (v := mI 5) hx hb dX12_steers_62 rfl ?_
    refine r_icmp_ge (tgt := 76) X dX12_steers_63 (by decide) hf (fun hc hf => ?_) (fun hc hf => ?_)
    · exact w_X12_steers_b76 X hw (lv_sub hl [1, 2, 0] rfl) hf
    · refine lv_aload_n hx hb dX12_steers_66 rfl (lv_at hl 1 rfl) ?_
      refine r_getr 120 X hw sh_86 fd_12_56 rfl rfl lf_X12_183 dX12_steers_67 ?_
      refine lv_iconst (v := mI 3) hx hb dX12_steers_70 rfl ?_
      refine r_iald (12 : Int) rfl X hw sh_120 dX12_steers_71 hf (fun hf => ?_)
      refine lv_iconst (v := mI 5) hx hb dX12_steers_72 rfl ?_
      refine r_icmp_lt (tgt := 80) X dX12_steers_73 (by decide) hf (fun hc hf => ?_) (fun hc hf => ?_)
      · refine lv_iconst (v := mI 0) hx hb dX12_steers_80 rfl ?_
        exact w_X12_steers_b81 X hw (lv_sub hl [1, 2, 0] rfl) hf
      · exact w_X12_steers_b76 X hw (lv_sub hl [1, 2, 0] rfl) hf
def g_X12_does_b89 (F : Nat)  (x2 : Int) (σ : mMem) : mRs := mlm (mup σ 86 64 (mor (σ 86 64) (mshl 1 x2))) (fun σ223 => some (0, σ223))
set_option maxRecDepth 100000 in
set_option maxHeartbeats 4000000 in
theorem w_X12_does_b89 {p : Program} {l : Launch} {e : Env} {s : State} {m : MethodId} {args : Array Value} {below : List Frame} {meth : Method} {c : Code} {D : va_G} {cy : Nat → ClassId} {ad : Nat → Nat} {bs : Nat} {F : Nat}  (X : mCx p m c cX12_does 5 s args RX12 meth D cy none)  {r : Int} {σ' : mMem}   {x2 : Int} {σ : mMem} {H : Heap} {locs : List Loc} {ls : Array Slot} (hw : mWd D cy ad bs true mN σ s.heap H locs) (hl : lv_has ls 5 [(0, .ref (ad 86)), (2, .int (mI x2))]) (hf : g_X12_does_b89 F x2 σ = some (r, σ')) : mGv p l e 6 s m args below meth c D cy ad bs σ' H locs (F0 m 89 ls []) := by
  obtain ⟨⟨hx, hb, -, -, -⟩, -⟩ := id X
  unfold g_X12_does_b89 at hf
  refine lv_aload_n hx hb dX12_does_89 rfl (lv_at hl 0 rfl) ?_
  refine lv_dup hx hb dX12_does_90 rfl ?_
  refine r_geti X hw sh_86 fd_12_64 rfl lf_X12_207 dX12_does_91 ?_
  refine lv_iconst (v := mI 1) hx hb dX12_does_94 rfl ?_
  refine lv_iload_n hx hb dX12_does_95 rfl (lv_at hl 1 rfl) ?_
  refine r_ishl X dX12_does_96 ?_
  refine r_ior X dX12_does_97 ?_
  refine r_puti X hw sh_86 fd_12_64 fp_12_64 rfl rfl lf_X12_207 dX12_does_98 (fun H locs hw => ?_)
  refine r_mem hf hw (fun σ223 hw hf => ?_)
  exact r_vret X hw dX12_does_101 hf
def g_X12_does_b185 (F : Nat)  (σ : mMem) : mRs := some (0, σ)
set_option maxRecDepth 100000 in
set_option maxHeartbeats 4000000 in
theorem w_X12_does_b185 {p : Program} {l : Launch} {e : Env} {s : State} {m : MethodId} {args : Array Value} {below : List Frame} {meth : Method} {c : Code} {D : va_G} {cy : Nat → ClassId} {ad : Nat → Nat} {bs : Nat} {F : Nat}  (X : mCx p m c cX12_does 5 s args RX12 meth D cy none)  {r : Int} {σ' : mMem}    {σ : mMem} {H : Heap} {locs : List Loc} {ls : Array Slot} (hw : mWd D cy ad bs true mN σ s.heap H locs) (hl : lv_has ls 5 [(0, .ref (ad 86))]) (hf : g_X12_does_b185 F  σ = some (r, σ')) : mGv p l e 6 s m args below meth c D cy ad bs σ' H locs (F0 m 185 ls []) := by
  obtain ⟨⟨hx, hb, -, -, -⟩, -⟩ := id X
  unfold g_X12_does_b185 at hf
  exact r_vret X hw dX12_does_185 hf
def g_X12_does_b52 (F : Nat)  (x1 x2 x3 : Int) (σ : mMem) : mRs := if 0 ≤ mw x3 ∧ mw x3 < (132 : Int) then if 0 ≤ mw x3 ∧ mw x3 < (132 : Int) then mob (g_X12_off F (σ 112 (mw x3).toNat) (σ 113 (mw x3).toNat) 1 0 σ) (fun r109 σ110 => if mw r109 = mw (-1) then (g_X12_does_b89 F x2 σ110) else (mob (g_X12_who F x1 r109 σ110) (fun r111 σ112 => if mw r111 = mw (-1) then (if 0 ≤ mw x3 ∧ mw x3 < (132 : Int) then mlm (mup σ112 112 (mw x3).toNat r109) (fun σ113 => if 0 ≤ mw x3 ∧ mw x3 < (132 : Int) then if mw 2520 = 0 then none else (if 0 ≤ mw x3 ∧ mw x3 < (132 : Int) then mlm (mup σ113 116 (mw x3).toNat ((mw ((σ113 116 (mw x3).toNat) + 1)).tmod (mw 2520))) (fun σ114 => mlm (mup σ114 86 63 (mor (σ114 86 63) (mshl 1 x2))) (fun σ115 => mob (g_X12_writesDown F x1 x2 σ115) (fun r116 σ117 => mob (g_X12_bias F x2 σ117) (fun r118 σ119 => if mw r118 ≤ 0 then (g_X12_does_b185 F σ119) else (if 0 ≤ mw x3 ∧ mw x3 < (132 : Int) then mob (g_X12_bias F x2 σ119) (fun r120 σ121 => if mw r120 = 0 then none else (if ¬ mw ((mw (σ119 116 (mw x3).toNat)).tmod (mw r120)) = 0 then (g_X12_does_b185 F σ121) else (if 0 ≤ mw x3 ∧ mw x3 < (132 : Int) then if mw 4 = 0 then none else (if 0 ≤ mw x3 ∧ mw x3 < (132 : Int) then mlm (mup σ121 113 (mw x3).toNat ((mw ((σ121 113 (mw x3).toNat) + 1)).tmod (mw 4))) (fun σ122 => g_X12_does_b185 F σ122) else none) else none))) else none))))) else none) else none) else none) else (g_X12_does_b89 F x2 σ112)))) else none else none
set_option maxRecDepth 100000 in
set_option maxHeartbeats 4000000 in
theorem w_X12_does_b52 {p : Program} {l : Launch} {e : Env} {s : State} {m : MethodId} {args : Array Value} {below : List Frame} {meth : Method} {c : Code} {D : va_G} {cy : Nat → ClassId} {ad : Nat → Nat} {bs : Nat} {F : Nat}  (X : mCx p m c cX12_does 5 s args RX12 meth D cy none)  {r : Int} {σ' : mMem}   {x1 x2 x3 : Int} {σ : mMem} {H : Heap} {locs : List Loc} {ls : Array Slot} (hw : mWd D cy ad bs true mN σ s.heap H locs) (hl : lv_has ls 5 [(0, .ref (ad 86)), (1, .int (mI x1)), (2, .int (mI x2)), (3, .int (mI x3))]) (hf : g_X12_does_b52 F x1 x2 x3 σ = some (r, σ')) : mGv p l e 6 s m args below meth c D cy ad bs σ' H locs (F0 m 52 ls []) := by
  obtain ⟨⟨hx, hb, -, -, -⟩, -⟩ := id X
  unfold g_X12_does_b52 at hf
  refine lv_aload_n hx hb dX12_does_52 rfl (lv_at hl 0 rfl) ?_
  refine lv_aload_n hx hb dX12_does_53 rfl (lv_at hl 0 rfl) ?_
  refine r_getr 112 X hw sh_86 fd_12_45 rfl rfl lf_X12_150 dX12_does_54 ?_
  refine lv_iload_n hx hb dX12_does_57 rfl (lv_at hl 3 rfl) ?_
  refine r_iald (132 : Int) rfl X hw sh_112 dX12_does_58 hf (fun hf => ?_)
  refine lv_aload_n hx hb dX12_does_59 rfl (lv_at hl 0 rfl) ?_
  refine r_getr 113 X hw sh_86 fd_12_46 rfl rfl lf_X12_153 dX12_does_60 ?_
  refine lv_iload_n hx hb dX12_does_63 rfl (lv_at hl 3 rfl) ?_
  refine r_iald (132 : Int) rfl X hw sh_113 dX12_does_64 hf (fun hf => ?_)
  refine lv_iconst (v := mI 1) hx hb dX12_does_65 rfl ?_
  refine lv_iconst (v := mI 0) hx hb dX12_does_66 rfl ?_
  refine r_cvi (rest := []) [.int (mI (σ 112 (mw x3).toNat)), .int (mI (σ 113 (mw x3).toNat)), .int (mI 1), .int (mI 0)] X hw (fun ra σa h => c_X12_off l D cy ad bs F (σ 112 (mw x3).toNat) (σ 113 (mw x3).toNat) 1 0 σ ra σa  h) sh_86 rfl (by decide) rfl km_X12_off kv_X12_off lm_X12_459 dX12_does_67 hl.1 rfl rfl (Nat.le_of_ble_eq_true rfl) ⟨by decide, by decide⟩ ⟨Nat.zero_le _, Nat.zero_le _⟩ hf (fun r109 σ110 _ hf H locs hw => ?_)
  refine lv_istore (lv' := [(4, .int (mI r109)), (0, .ref (ad 86)), (1, .int (mI x1)), (2, .int (mI x2)), (3, .int (mI x3))]) hx hb dX12_does_70 hl (by decide) rfl (fun ls hl => ?_)
  refine lv_iload hx hb dX12_does_72 (lv_at hl 0 rfl) ?_
  refine lv_iconst (v := mI (-1)) hx hb dX12_does_74 rfl ?_
  refine r_icmp_eq (tgt := 89) X dX12_does_75 (by decide) hf (fun hc hf => ?_) (fun hc hf => ?_)
  · exact w_X12_does_b89 X hw (lv_sub hl [1, 3] rfl) hf
  · refine lv_aload_n hx hb dX12_does_78 rfl (lv_at hl 1 rfl) ?_
    refine lv_iload_n hx hb dX12_does_79 rfl (lv_at hl 2 rfl) ?_
    refine lv_iload hx hb dX12_does_80 (lv_at hl 0 rfl) ?_
    refine r_cvi (rest := []) [.int (mI x1), .int (mI r109)] X hw (fun ra σa h => c_X12_who l D cy ad bs F x1 r109 σ110 ra σa  h) sh_86 rfl (by decide) rfl km_X12_who kv_X12_who lm_X12_477 dX12_does_82 hl.1 rfl rfl (Nat.le_of_ble_eq_true rfl) ⟨by decide, by decide⟩ ⟨Nat.zero_le _, Nat.zero_le _⟩ hf (fun r111 σ112 _ hf H locs hw => ?_)
    refine lv_iconst (v := mI (-1)) hx hb dX12_does_85 rfl ?_
    refine r_icmp_eq (tgt := 102) X dX12_does_86 (by decide) hf (fun hc hf => ?_) (fun hc hf => ?_)
    · refine lv_aload_n hx hb dX12_does_102 rfl (lv_at hl 1 rfl) ?_
      refine r_getr 112 X hw sh_86 fd_12_45 rfl rfl lf_X12_150 dX12_does_103 ?_
      refine lv_iload_n hx hb dX12_does_106 rfl (lv_at hl 4 rfl) ?_
      refine lv_iload hx hb dX12_does_107 (lv_at hl 0 rfl) ?_
      refine r_iast (132 : Int) rfl X hw sh_112 dX12_does_109 hf (fun hf H locs hw => ?_)
      refine r_mem hf hw (fun σ113 hw hf => ?_)
      refine lv_aload_n hx hb dX12_does_110 rfl (lv_at hl 1 rfl) ?_
      refine r_getr 116 X hw sh_86 fd_12_49 rfl rfl lf_X12_162 dX12_does_111 ?_
      refine lv_iload_n hx hb dX12_does_114 rfl (lv_at hl 4 rfl) ?_
      refine lv_aload_n hx hb dX12_does_115 rfl (lv_at hl 1 rfl) ?_
      refine r_getr 116 X hw sh_86 fd_12_49 rfl rfl lf_X12_162 dX12_does_116 ?_
      refine lv_iload_n hx hb dX12_does_119 rfl (lv_at hl 4 rfl) ?_
      refine r_iald (132 : Int) rfl X hw sh_116 dX12_does_120 hf (fun hf => ?_)
      refine lv_iconst (v := mI 1) hx hb dX12_does_121 rfl ?_
      refine r_iadd X dX12_does_122 ?_
      refine lv_sipush (v := mI 2520) hx hb dX12_does_123 (by decide) ?_
      refine r_irem X dX12_does_126 hf (fun hf => ?_)
      refine r_iast (132 : Int) rfl X hw sh_116 dX12_does_127 hf (fun hf H locs hw => ?_)
      refine r_mem hf hw (fun σ114 hw hf => ?_)
      refine lv_aload_n hx hb dX12_does_128 rfl (lv_at hl 1 rfl) ?_
      refine lv_dup hx hb dX12_does_129 rfl ?_
      refine r_geti X hw sh_86 fd_12_63 rfl lf_X12_204 dX12_does_130 ?_
      refine lv_iconst (v := mI 1) hx hb dX12_does_133 rfl ?_
      refine lv_iload_n hx hb dX12_does_134 rfl (lv_at hl 3 rfl) ?_
      refine r_ishl X dX12_does_135 ?_
      refine r_ior X dX12_does_136 ?_
      refine r_puti X hw sh_86 fd_12_63 fp_12_63 rfl rfl lf_X12_204 dX12_does_137 (fun H locs hw => ?_)
      refine r_mem hf hw (fun σ115 hw hf => ?_)
      refine lv_aload_n hx hb dX12_does_140 rfl (lv_at hl 1 rfl) ?_
      refine lv_iload_n hx hb dX12_does_141 rfl (lv_at hl 2 rfl) ?_
      refine lv_iload_n hx hb dX12_does_142 rfl (lv_at hl 3 rfl) ?_
      refine r_cvv (rest := []) [.int (mI x1), .int (mI x2)] X hw (fun ra σa h => c_X12_writesDown l D cy ad bs F x1 x2 σ115 ra σa  h) sh_86 rfl (by decide) rfl km_X12_writesDown kv_X12_writesDown lm_X12_480 dX12_does_143 hl.1 rfl rfl (Nat.le_of_ble_eq_true rfl) ⟨by decide, by decide⟩ ⟨Nat.zero_le _, Nat.zero_le _⟩ hf (fun r116 σ117 _ hf H locs hw => ?_)
      refine lv_aload_n hx hb dX12_does_146 rfl (lv_at hl 1 rfl) ?_
      refine lv_iload_n hx hb dX12_does_147 rfl (lv_at hl 3 rfl) ?_
      refine r_cvi (rest := []) [.int (mI x2)] X hw (fun ra σa h => c_X12_bias l D cy ad bs F x2 σ117 ra σa  h) sh_86 rfl (by decide) rfl km_X12_bias kv_X12_bias lm_X12_483 dX12_does_148 hl.1 rfl rfl (Nat.le_of_ble_eq_true rfl) ⟨by decide, by decide⟩ ⟨Nat.zero_le _, Nat.zero_le _⟩ hf (fun r118 σ119 _ hf H locs hw => ?_)
      refine r_if_le (tgt := 185) X dX12_does_151 (by decide) hf (fun hc hf => ?_) (fun hc hf => ?_)
      · exact w_X12_does_b185 X hw (lv_sub hl [1] rfl) hf
      · refine lv_aload_n hx hb dX12_does_154 rfl (lv_at hl 1 rfl) ?_
        refine r_getr 116 X hw sh_86 fd_12_49 rfl rfl lf_X12_162 dX12_does_155 ?_
        refine lv_iload_n hx hb dX12_does_158 rfl (lv_at hl 4 rfl) ?_
        refine r_iald (132 : Int) rfl X hw sh_116 dX12_does_159 hf (fun hf => ?_)
        refine lv_aload_n hx hb dX12_does_160 rfl (lv_at hl 1 rfl) ?_
        refine lv_iload_n hx hb dX12_does_161 rfl (lv_at hl 3 rfl) ?_
        refine r_cvi (rest := [.int (mI (σ119 116 (mw x3).toNat))]) [.int (mI x2)] X hw (fun ra σa h => c_X12_bias l D cy ad bs F x2 σ119 ra σa  h) sh_86 rfl (by decide) rfl km_X12_bias kv_X12_bias lm_X12_483 dX12_does_162 hl.1 rfl rfl (Nat.le_of_ble_eq_true rfl) ⟨by decide, by decide⟩ ⟨Nat.zero_le _, Nat.zero_le _⟩ hf (fun r120 σ121 _ hf H locs hw => ?_)
        refine r_irem X dX12_does_165 hf (fun hf => ?_)
        refine r_if_ne (tgt := 185) X dX12_does_166 (by decide) hf (fun hc hf => ?_) (fun hc hf => ?_)
        · exact w_X12_does_b185 X hw (lv_sub hl [1] rfl) hf
        · refine lv_aload_n hx hb dX12_does_169 rfl (lv_at hl 1 rfl) ?_
          refine r_getr 113 X hw sh_86 fd_12_46 rfl rfl lf_X12_153 dX12_does_170 ?_
          refine lv_iload_n hx hb dX12_does_173 rfl (lv_at hl 4 rfl) ?_
          refine lv_aload_n hx hb dX12_does_174 rfl (lv_at hl 1 rfl) ?_
          refine r_getr 113 X hw sh_86 fd_12_46 rfl rfl lf_X12_153 dX12_does_175 ?_
          refine lv_iload_n hx hb dX12_does_178 rfl (lv_at hl 4 rfl) ?_
          refine r_iald (132 : Int) rfl X hw sh_113 dX12_does_179 hf (fun hf => ?_)
          refine lv_iconst (v := mI 1) hx hb dX12_does_180 rfl ?_
          refine r_iadd X dX12_does_181 ?_
          refine lv_iconst (v := mI 4) hx hb dX12_does_182 rfl ?_
          refine r_irem X dX12_does_183 hf (fun hf => ?_)
          refine r_iast (132 : Int) rfl X hw sh_113 dX12_does_184 hf (fun hf H locs hw => ?_)
          refine r_mem hf hw (fun σ122 hw hf => ?_)
          exact w_X12_does_b185 X hw (lv_sub hl [1] rfl) hf
    · exact w_X12_does_b89 X hw (lv_sub hl [1, 3] rfl) hf
def g_X12_does (F : Nat) (x1 x2 : Int) (σ : mMem) : mRs := mlet ((6 * x1) + x2) (fun y1 => if 0 ≤ mw y1 ∧ mw y1 < (132 : Int) then if ¬ mw (σ 114 (mw y1).toNat) = 0 then (mob (g_X12_steers F x1 x2 σ) (fun r2 σ3 => if 0 ≤ mw y1 ∧ mw y1 < (132 : Int) then if 0 ≤ mw y1 ∧ mw y1 < (132 : Int) then mlm (mup σ3 114 (mw y1).toNat ((σ3 114 (mw y1).toNat) - 1)) (fun σ4 => mob (g_X12_isTold F 1 σ4) (fun r5 σ6 => if mw r5 = 0 then (g_X12_does_b52 F x1 x2 y1 σ6) else (mob (g_X12_reckons F 1 σ6) (fun r7 σ8 => if ¬ mwl r7 = mwl 0 then (g_X12_does_b52 F x1 x2 y1 σ8) else (some (0, σ8)))))) else none else none)) else (some (0, σ)) else none)
set_option maxRecDepth 100000 in
set_option maxHeartbeats 4000000 in
theorem c_X12_does (l : Launch) (D : va_G) (cy : Nat → ClassId) (ad : Nat → Nat) (bs : Nat) (F : Nat)  (x1 x2 : Int) (σ : mMem) (r : Int) (σ' : mMem)  (hf : g_X12_does F x1 x2 σ = some (r, σ')) : mCv l D cy ad bs yX12_does cX12_does 5 none 6 [.ref (ad 86), .int (mI x1), .int (mI x2)] σ σ' := by
  refine mCv.of (lv := [(0, .ref (ad 86)), (1, .int (mI x1)), (2, .int (mI x2))]) km_X12_does.2.2.2.2.2 (Nat.le_of_ble_eq_true rfl) rfl (fun p e s m args below meth c H locs ls X hw hl => ?_)
  obtain ⟨⟨hx, hb, -, -, -⟩, -⟩ := id X
  unfold g_X12_does at hf
  refine lv_bipush (v := mI 6) hx hb dX12_does_0 (by decide) ?_
  refine lv_iload_n hx hb dX12_does_2 rfl (lv_at hl 1 rfl) ?_
  refine r_imul X dX12_does_3 ?_
  refine lv_iload_n hx hb dX12_does_4 rfl (lv_at hl 2 rfl) ?_
  refine r_iadd X dX12_does_5 ?_
  refine r_leti hf (fun y1 hf => ?_)
  refine lv_istore_n (lv' := [(3, .int (mI y1)), (0, .ref (ad 86)), (1, .int (mI x1)), (2, .int (mI x2))]) hx hb dX12_does_6 rfl hl (by decide) rfl (fun ls hl => ?_)
  refine lv_aload_n hx hb dX12_does_7 rfl (lv_at hl 1 rfl) ?_
  refine r_getr 114 X hw sh_86 fd_12_47 rfl rfl lf_X12_156 dX12_does_8 ?_
  refine lv_iload_n hx hb dX12_does_11 rfl (lv_at hl 0 rfl) ?_
  refine r_iald (132 : Int) rfl X hw sh_114 dX12_does_12 hf (fun hf => ?_)
  refine r_if_ne (tgt := 17) X dX12_does_13 (by decide) hf (fun hc hf => ?_) (fun hc hf => ?_)
  · refine lv_aload_n hx hb dX12_does_17 rfl (lv_at hl 1 rfl) ?_
    refine lv_iload_n hx hb dX12_does_18 rfl (lv_at hl 2 rfl) ?_
    refine lv_iload_n hx hb dX12_does_19 rfl (lv_at hl 3 rfl) ?_
    refine r_cvv (rest := []) [.int (mI x1), .int (mI x2)] X hw (fun ra σa h => c_X12_steers l D cy ad bs F x1 x2 σ ra σa  h) sh_86 rfl (by decide) rfl km_X12_steers kv_X12_steers lm_X12_474 dX12_does_20 hl.1 rfl rfl (Nat.le_of_ble_eq_true rfl) ⟨by decide, by decide⟩ ⟨Nat.zero_le _, Nat.zero_le _⟩ hf (fun r2 σ3 _ hf H locs hw => ?_)
    refine lv_aload_n hx hb dX12_does_23 rfl (lv_at hl 1 rfl) ?_
    refine r_getr 114 X hw sh_86 fd_12_47 rfl rfl lf_X12_156 dX12_does_24 ?_
    refine lv_iload_n hx hb dX12_does_27 rfl (lv_at hl 0 rfl) ?_
    refine lv_dup2_11 hx hb dX12_does_28 rfl rfl ?_
    refine r_iald (132 : Int) rfl X hw sh_114 dX12_does_29 hf (fun hf => ?_)
    refine lv_iconst (v := mI 1) hx hb dX12_does_30 rfl ?_
    refine r_isub X dX12_does_31 ?_
    refine r_iast (132 : Int) rfl X hw sh_114 dX12_does_32 hf (fun hf H locs hw => ?_)
    refine r_mem hf hw (fun σ4 hw hf => ?_)
    refine lv_aload_n hx hb dX12_does_33 rfl (lv_at hl 1 rfl) ?_
    refine lv_iconst (v := mI 1) hx hb dX12_does_34 rfl ?_
    refine r_cvi (rest := []) [.int (mI 1)] X hw (fun ra σa h => c_X12_isTold l D cy ad bs F 1 σ4 ra σa  h) sh_86 rfl (by decide) rfl km_X12_isTold kv_X12_isTold lm_X12_467 dX12_does_35 hl.1 rfl rfl (Nat.le_of_ble_eq_true rfl) ⟨by decide, by decide⟩ ⟨Nat.zero_le _, Nat.zero_le _⟩ hf (fun r5 σ6 _ hf H locs hw => ?_)
    refine r_if_eq (tgt := 52) X dX12_does_38 (by decide) hf (fun hc hf => ?_) (fun hc hf => ?_)
    · exact w_X12_does_b52 X hw (lv_sub hl [1, 2, 3, 0] rfl) hf
    · refine lv_aload_n hx hb dX12_does_41 rfl (lv_at hl 1 rfl) ?_
      refine lv_iconst (v := mI 1) hx hb dX12_does_42 rfl ?_
      refine r_cvl (rest := []) [.int (mI 1)] X hw (fun ra σa h => c_X12_reckons l D cy ad bs F 1 σ6 ra σa  h) sh_86 rfl (by decide) rfl km_X12_reckons kv_X12_reckons lm_X12_470 dX12_does_43 hl.1 rfl rfl (Nat.le_of_ble_eq_true rfl) ⟨by decide, by decide⟩ ⟨Nat.zero_le _, Nat.zero_le _⟩ hf (fun r7 σ8 _ hf H locs hw => ?_)
      refine lv_lconst (v := mL 0) hx hb dX12_does_46 (by decide) ?_
      refine r_lcmp_ne (tgt := 52) X dX12_does_47 dX12_does_48 (by decide) hf (fun hc hf => ?_) (fun hc hf => ?_)
      · exact w_X12_does_b52 X hw (lv_sub hl [1, 2, 3, 0] rfl) hf
      · exact r_vret X hw dX12_does_51 hf
  · exact r_vret X hw dX12_does_16 hf
def g_X12_passes_b41 (F : Nat) (k12 : Int → Int → Int → mMem → mRs) (x1 x2 x3 : Int) (σ : mMem) : mRs := k12 x1 x2 (x3 + 1) σ
set_option maxRecDepth 100000 in
set_option maxHeartbeats 4000000 in
theorem w_X12_passes_b41 {p : Program} {l : Launch} {e : Env} {s : State} {m : MethodId} {args : Array Value} {below : List Frame} {meth : Method} {c : Code} {D : va_G} {cy : Nat → ClassId} {ad : Nat → Nat} {bs : Nat} {F : Nat}  (X : mCx p m c cX12_passes 4 s args RX12 meth D cy none)  {r : Int} {σ' : mMem} {k12 : Int → Int → Int → mMem → mRs} (hk12 : ∀ (x1 x2 x3 : Int) (σ : mMem) (H : Heap) (locs : List Loc) (ls : Array Slot), mWd D cy ad bs true mN σ s.heap H locs → lv_has ls 4 [(0, .ref (ad 86)), (1, .int (mI x1)), (2, .int (mI x2)), (3, .int (mI x3))] → k12 x1 x2 x3 σ = some (r, σ') → mGv p l e 7 s m args below meth c D cy ad bs σ' H locs (F0 m 12 ls [])) {x1 x2 x3 : Int} {σ : mMem} {H : Heap} {locs : List Loc} {ls : Array Slot} (hw : mWd D cy ad bs true mN σ s.heap H locs) (hl : lv_has ls 4 [(0, .ref (ad 86)), (1, .int (mI x1)), (2, .int (mI x2)), (3, .int (mI x3))]) (hf : g_X12_passes_b41 F k12 x1 x2 x3 σ = some (r, σ')) : mGv p l e 7 s m args below meth c D cy ad bs σ' H locs (F0 m 41 ls []) := by
  obtain ⟨⟨hx, hb, -, -, -⟩, -⟩ := id X
  unfold g_X12_passes_b41 at hf
  refine lv_iinc (v := mI (x3 + 1)) (lv' := [(3, .int (mI (x3 + 1))), (0, .ref (ad 86)), (1, .int (mI x1)), (2, .int (mI x2))]) hx hb dX12_passes_41 hl (k := 3) rfl (mI_add _ _) (by decide) rfl (fun ls hl => ?_)
  refine lv_goto (tgt := 12) hx hb dX12_passes_44 (by decide) ?_
  exact hk12 x1 x2 (x3 + 1) σ _ _ _ hw (lv_sub hl [1, 2, 3, 0] rfl) hf
def g_X12_passes_h12 (F : Nat)  : Nat → Int → Int → Int → mMem → mRs
  | 0, _, _, _, _ => none
  | n + 1, x1, x2, x3, σ => if 0 ≤ mw (σ 86 13) ∧ mw (σ 86 13) < (2 : Int) then if mw (σ 91 (mw (σ 86 13)).toNat) ≤ mw x3 then (if 0 ≤ mw x1 ∧ mw x1 < (22 : Int) then if 0 ≤ mw x1 ∧ mw x1 < (22 : Int) then mlm (mup σ 110 (mw x1).toNat ((σ 110 (mw x1).toNat) + 1)) (fun σ103 => some (0, σ103)) else none else none) else (if mw x2 < mw (x3 * (σ 86 62)) then (g_X12_passes_b41 F (g_X12_passes_h12 F n) x1 x2 x3 σ) else (mob (g_X12_does F x1 x3 σ) (fun r104 σ105 => g_X12_passes_b41 F (g_X12_passes_h12 F n) x1 x2 x3 σ105))) else none
set_option maxRecDepth 100000 in
set_option maxHeartbeats 4000000 in
theorem w_X12_passes_h12 {p : Program} {l : Launch} {e : Env} {s : State} {m : MethodId} {args : Array Value} {below : List Frame} {meth : Method} {c : Code} {D : va_G} {cy : Nat → ClassId} {ad : Nat → Nat} {bs : Nat} {F : Nat}  (X : mCx p m c cX12_passes 4 s args RX12 meth D cy none)  {r : Int} {σ' : mMem}   (n : Nat) : ∀ {x1 x2 x3 : Int} {σ : mMem} {H : Heap} {locs : List Loc} {ls : Array Slot} (_ : mWd D cy ad bs true mN σ s.heap H locs) (_ : lv_has ls 4 [(0, .ref (ad 86)), (1, .int (mI x1)), (2, .int (mI x2)), (3, .int (mI x3))]) (_ : g_X12_passes_h12 F n x1 x2 x3 σ = some (r, σ')), mGv p l e 7 s m args below meth c D cy ad bs σ' H locs (F0 m 12 ls []) := by
  obtain ⟨⟨hx, hb, -, -, -⟩, -⟩ := id X
  induction n with
  | zero =>
    intro x1 x2 x3 σ H locs ls hw hl hf
    unfold g_X12_passes_h12 at hf
    cases hf
  | succ n ih =>
    have hk12 : ∀ (x1 x2 x3 : Int) (σ : mMem) (H : Heap) (locs : List Loc) (ls : Array Slot), mWd D cy ad bs true mN σ s.heap H locs → lv_has ls 4 [(0, .ref (ad 86)), (1, .int (mI x1)), (2, .int (mI x2)), (3, .int (mI x3))] → g_X12_passes_h12 F n x1 x2 x3 σ = some (r, σ') → mGv p l e 7 s m args below meth c D cy ad bs σ' H locs (F0 m 12 ls []) := fun x1 x2 x3 σ H locs ls hw hl hf => ih hw hl hf
    intro x1 x2 x3 σ H locs ls hw hl hf
    unfold g_X12_passes_h12 at hf
    refine lv_iload_n hx hb dX12_passes_12 rfl (lv_at hl 3 rfl) ?_
    refine lv_aload_n hx hb dX12_passes_13 rfl (lv_at hl 0 rfl) ?_
    refine r_getr 91 X hw sh_86 fd_12_17 rfl rfl lf_X12_63 dX12_passes_14 ?_
    refine lv_aload_n hx hb dX12_passes_17 rfl (lv_at hl 0 rfl) ?_
    refine r_geti X hw sh_86 fd_12_13 rfl lf_X12_51 dX12_passes_18 ?_
    refine r_iald (2 : Int) rfl X hw sh_91 dX12_passes_21 hf (fun hf => ?_)
    refine r_icmp_ge (tgt := 47) X dX12_passes_22 (by decide) hf (fun hc hf => ?_) (fun hc hf => ?_)
    · refine lv_aload_n hx hb dX12_passes_47 rfl (lv_at hl 0 rfl) ?_
      refine r_getr 110 X hw sh_86 fd_12_43 rfl rfl lf_X12_144 dX12_passes_48 ?_
      refine lv_iload_n hx hb dX12_passes_51 rfl (lv_at hl 1 rfl) ?_
      refine lv_dup2_11 hx hb dX12_passes_52 rfl rfl ?_
      refine r_iald (22 : Int) rfl X hw sh_110 dX12_passes_53 hf (fun hf => ?_)
      refine lv_iconst (v := mI 1) hx hb dX12_passes_54 rfl ?_
      refine r_iadd X dX12_passes_55 ?_
      refine r_iast (22 : Int) rfl X hw sh_110 dX12_passes_56 hf (fun hf H locs hw => ?_)
      refine r_mem hf hw (fun σ103 hw hf => ?_)
      exact r_vret X hw dX12_passes_57 hf
    · refine lv_iload_n hx hb dX12_passes_25 rfl (lv_at hl 2 rfl) ?_
      refine lv_iload_n hx hb dX12_passes_26 rfl (lv_at hl 3 rfl) ?_
      refine lv_aload_n hx hb dX12_passes_27 rfl (lv_at hl 0 rfl) ?_
      refine r_geti X hw sh_86 fd_12_62 rfl lf_X12_201 dX12_passes_28 ?_
      refine r_imul X dX12_passes_31 ?_
      refine r_icmp_lt (tgt := 41) X dX12_passes_32 (by decide) hf (fun hc hf => ?_) (fun hc hf => ?_)
      · exact w_X12_passes_b41 X hk12 hw (lv_sub hl [0, 1, 2, 3] rfl) hf
      · refine lv_aload_n hx hb dX12_passes_35 rfl (lv_at hl 0 rfl) ?_
        refine lv_iload_n hx hb dX12_passes_36 rfl (lv_at hl 1 rfl) ?_
        refine lv_iload_n hx hb dX12_passes_37 rfl (lv_at hl 3 rfl) ?_
        refine r_cvv (rest := []) [.int (mI x1), .int (mI x3)] X hw (fun ra σa h => c_X12_does l D cy ad bs F x1 x3 σ ra σa  h) sh_86 rfl (by decide) rfl km_X12_does kv_X12_does lm_X12_486 dX12_passes_38 hl.1 rfl rfl (Nat.le_of_ble_eq_true rfl) ⟨by decide, by decide⟩ ⟨Nat.zero_le _, Nat.zero_le _⟩ hf (fun r104 σ105 _ hf H locs hw => ?_)
        exact w_X12_passes_b41 X hk12 hw (lv_sub hl [0, 1, 2, 3] rfl) hf
def g_X12_passes (F : Nat) (x1 x2 : Int) (σ : mMem) : mRs := mlm (mup σ 86 63 0) (fun σ1 => mlm (mup σ1 86 64 0) (fun σ2 => g_X12_passes_h12 F F x1 x2 0 σ2))
set_option maxRecDepth 100000 in
set_option maxHeartbeats 4000000 in
theorem c_X12_passes (l : Launch) (D : va_G) (cy : Nat → ClassId) (ad : Nat → Nat) (bs : Nat) (F : Nat)  (x1 x2 : Int) (σ : mMem) (r : Int) (σ' : mMem)  (hf : g_X12_passes F x1 x2 σ = some (r, σ')) : mCv l D cy ad bs yX12_passes cX12_passes 4 none 7 [.ref (ad 86), .int (mI x1), .int (mI x2)] σ σ' := by
  refine mCv.of (lv := [(0, .ref (ad 86)), (1, .int (mI x1)), (2, .int (mI x2))]) km_X12_passes.2.2.2.2.2 (Nat.le_of_ble_eq_true rfl) rfl (fun p e s m args below meth c H locs ls X hw hl => ?_)
  obtain ⟨⟨hx, hb, -, -, -⟩, -⟩ := id X
  unfold g_X12_passes at hf
  refine lv_aload_n hx hb dX12_passes_0 rfl (lv_at hl 0 rfl) ?_
  refine lv_iconst (v := mI 0) hx hb dX12_passes_1 rfl ?_
  refine r_puti X hw sh_86 fd_12_63 fp_12_63 rfl rfl lf_X12_204 dX12_passes_2 (fun H locs hw => ?_)
  refine r_mem hf hw (fun σ1 hw hf => ?_)
  refine lv_aload_n hx hb dX12_passes_5 rfl (lv_at hl 0 rfl) ?_
  refine lv_iconst (v := mI 0) hx hb dX12_passes_6 rfl ?_
  refine r_puti X hw sh_86 fd_12_64 fp_12_64 rfl rfl lf_X12_207 dX12_passes_7 (fun H locs hw => ?_)
  refine r_mem hf hw (fun σ2 hw hf => ?_)
  refine lv_iconst (v := mI 0) hx hb dX12_passes_10 rfl ?_
  refine lv_istore_n (lv' := [(3, .int (mI 0)), (0, .ref (ad 86)), (1, .int (mI x1)), (2, .int (mI x2))]) hx hb dX12_passes_11 rfl hl (by decide) rfl (fun ls hl => ?_)
  exact w_X12_passes_h12 X _ hw (lv_sub hl [1, 2, 3, 0] rfl) hf
def g_X12_bits_h4 (F : Nat)  : Nat → Int → Int → mMem → mRs
  | 0, _, _, _ => none
  | n + 1, x1, x2, σ => if mw x2 = 0 then (some (x1, σ)) else (mlet (mand x2 (x2 - 1)) (fun y101 => (g_X12_bits_h4 F n) (x1 + 1) y101 σ))
set_option maxRecDepth 100000 in
set_option maxHeartbeats 4000000 in
theorem w_X12_bits_h4 {p : Program} {l : Launch} {e : Env} {s : State} {m : MethodId} {args : Array Value} {below : List Frame} {meth : Method} {c : Code} {D : va_G} {cy : Nat → ClassId} {ad : Nat → Nat} {bs : Nat} {F : Nat}  (X : mCx p m c cX12_bits 3 s args RX12 meth D cy (some .int))  {r : Int} {σ' : mMem}   (n : Nat) : ∀ {x1 x2 : Int} {σ : mMem} {H : Heap} {locs : List Loc} {ls : Array Slot} (_ : mWd D cy ad bs true mN σ s.heap H locs) (_ : lv_has ls 3 [(1, .int (mI x1)), (2, .int (mI x2))]) (_ : g_X12_bits_h4 F n x1 x2 σ = some (r, σ')), mGi p l e 1 s m args below meth c D cy ad bs r σ' H locs (F0 m 4 ls []) := by
  obtain ⟨⟨hx, hb, -, -, -⟩, -⟩ := id X
  induction n with
  | zero =>
    intro x1 x2 σ H locs ls hw hl hf
    unfold g_X12_bits_h4 at hf
    cases hf
  | succ n ih =>
    have hk4 : ∀ (x1 x2 : Int) (σ : mMem) (H : Heap) (locs : List Loc) (ls : Array Slot), mWd D cy ad bs true mN σ s.heap H locs → lv_has ls 3 [(1, .int (mI x1)), (2, .int (mI x2))] → g_X12_bits_h4 F n x1 x2 σ = some (r, σ') → mGi p l e 1 s m args below meth c D cy ad bs r σ' H locs (F0 m 4 ls []) := fun x1 x2 σ H locs ls hw hl hf => ih hw hl hf
    intro x1 x2 σ H locs ls hw hl hf
    unfold g_X12_bits_h4 at hf
    refine lv_iload_n hx hb dX12_bits_4 rfl (lv_at hl 1 rfl) ?_
    refine r_if_eq (tgt := 20) X dX12_bits_5 (by decide) hf (fun hc hf => ?_) (fun hc hf => ?_)
    · refine lv_iload_n hx hb dX12_bits_20 rfl (lv_at hl 0 rfl) ?_
      exact r_iret X hw dX12_bits_21 hf
    · refine lv_iinc (v := mI (x1 + 1)) (lv' := [(1, .int (mI (x1 + 1))), (2, .int (mI x2))]) hx hb dX12_bits_8 hl (k := 0) rfl (mI_add _ _) (by decide) rfl (fun ls hl => ?_)
      refine lv_iload_n hx hb dX12_bits_11 rfl (lv_at hl 1 rfl) ?_
      refine lv_iload_n hx hb dX12_bits_12 rfl (lv_at hl 1 rfl) ?_
      refine lv_iconst (v := mI 1) hx hb dX12_bits_13 rfl ?_
      refine r_isub X dX12_bits_14 ?_
      refine r_iand X dX12_bits_15 ?_
      refine r_leti hf (fun y101 hf => ?_)
      refine lv_istore_n (lv' := [(2, .int (mI y101)), (1, .int (mI (x1 + 1)))]) hx hb dX12_bits_16 rfl hl (by decide) rfl (fun ls hl => ?_)
      refine lv_goto (tgt := 4) hx hb dX12_bits_17 (by decide) ?_
      exact hk4 (x1 + 1) y101 σ _ _ _ hw (lv_sub hl [1, 0] rfl) hf
def g_X12_bits (F : Nat) (x0 : Int) (σ : mMem) : mRs := g_X12_bits_h4 F F 0 x0 σ
set_option maxRecDepth 100000 in
set_option maxHeartbeats 4000000 in
theorem c_X12_bits (l : Launch) (D : va_G) (cy : Nat → ClassId) (ad : Nat → Nat) (bs : Nat) (F : Nat)  (x0 : Int) (σ : mMem) (r : Int) (σ' : mMem)  (hf : g_X12_bits F x0 σ = some (r, σ')) : mCi l D cy ad bs yX12_bits cX12_bits 3 (some .int) 1 [.int (mI x0)] σ r σ' := by
  refine mCi.of (lv := [(0, .int (mI x0))]) km_X12_bits.2.2.2.2.2 (Nat.le_of_ble_eq_true rfl) rfl (fun p e s m args below meth c H locs ls X hw hl => ?_)
  obtain ⟨⟨hx, hb, -, -, -⟩, -⟩ := id X
  unfold g_X12_bits at hf
  refine lv_iconst (v := mI 0) hx hb dX12_bits_0 rfl ?_
  refine lv_istore_n (lv' := [(1, .int (mI 0)), (0, .int (mI x0))]) hx hb dX12_bits_1 rfl hl (by decide) rfl (fun ls hl => ?_)
  refine lv_iload_n hx hb dX12_bits_2 rfl (lv_at hl 1 rfl) ?_
  refine lv_istore_n (lv' := [(2, .int (mI x0)), (1, .int (mI 0)), (0, .int (mI x0))]) hx hb dX12_bits_3 rfl hl (by decide) rfl (fun ls hl => ?_)
  exact w_X12_bits_h4 X _ hw (lv_sub hl [1, 0] rfl) hf
def g_X12_isBox_b22 (F : Nat)  (t0 : Int) (σ : mMem) : mRs := if mw t0 = 0 ∨ mw t0 = 1 then some (t0, σ) else none
set_option maxRecDepth 100000 in
set_option maxHeartbeats 4000000 in
theorem w_X12_isBox_b22 {p : Program} {l : Launch} {e : Env} {s : State} {m : MethodId} {args : Array Value} {below : List Frame} {meth : Method} {c : Code} {D : va_G} {cy : Nat → ClassId} {ad : Nat → Nat} {bs : Nat} {F : Nat}  (X : mCx p m c cX12_isBox 2 s args RX12 meth D cy (some .boolean))  {r : Int} {σ' : mMem}   {t0 : Int} {σ : mMem} {H : Heap} {locs : List Loc} {ls : Array Slot} (hw : mWd D cy ad bs true mN σ s.heap H locs) (hl : lv_has ls 2 [(0, .ref (ad 86))]) (hf : g_X12_isBox_b22 F t0 σ = some (r, σ')) : mGi p l e 1 s m args below meth c D cy ad bs r σ' H locs (F0 m 22 ls [.int (mI t0)]) := by
  obtain ⟨⟨hx, hb, -, -, -⟩, -⟩ := id X
  unfold g_X12_isBox_b22 at hf
  exact r_zret X hw dX12_isBox_22 hf
def g_X12_isBox_b21 (F : Nat)  (σ : mMem) : mRs := g_X12_isBox_b22 F 0 σ
set_option maxRecDepth 100000 in
set_option maxHeartbeats 4000000 in
theorem w_X12_isBox_b21 {p : Program} {l : Launch} {e : Env} {s : State} {m : MethodId} {args : Array Value} {below : List Frame} {meth : Method} {c : Code} {D : va_G} {cy : Nat → ClassId} {ad : Nat → Nat} {bs : Nat} {F : Nat}  (X : mCx p m c cX12_isBox 2 s args RX12 meth D cy (some .boolean))  {r : Int} {σ' : mMem}    {σ : mMem} {H : Heap} {locs : List Loc} {ls : Array Slot} (hw : mWd D cy ad bs true mN σ s.heap H locs) (hl : lv_has ls 2 [(0, .ref (ad 86))]) (hf : g_X12_isBox_b21 F  σ = some (r, σ')) : mGi p l e 1 s m args below meth c D cy ad bs r σ' H locs (F0 m 21 ls []) := by
  obtain ⟨⟨hx, hb, -, -, -⟩, -⟩ := id X
  unfold g_X12_isBox_b21 at hf
  refine lv_iconst (v := mI 0) hx hb dX12_isBox_21 rfl ?_
  exact w_X12_isBox_b22 X hw (lv_sub hl [0] rfl) hf
def g_X12_isBox (F : Nat) (x1 : Int) (σ : mMem) : mRs := if mw x1 < 0 then (g_X12_isBox_b21 F σ) else (if 0 ≤ mw (σ 86 13) ∧ mw (σ 86 13) < (2 : Int) then if mw (σ 91 (mw (σ 86 13)).toNat) ≤ mw x1 then (g_X12_isBox_b21 F σ) else (g_X12_isBox_b22 F 1 σ) else none)
set_option maxRecDepth 100000 in
set_option maxHeartbeats 4000000 in
theorem c_X12_isBox (l : Launch) (D : va_G) (cy : Nat → ClassId) (ad : Nat → Nat) (bs : Nat) (F : Nat)  (x1 : Int) (σ : mMem) (r : Int) (σ' : mMem)  (hf : g_X12_isBox F x1 σ = some (r, σ')) : mCi l D cy ad bs yX12_isBox cX12_isBox 2 (some .boolean) 1 [.ref (ad 86), .int (mI x1)] σ r σ' := by
  refine mCi.of (lv := [(0, .ref (ad 86)), (1, .int (mI x1))]) km_X12_isBox.2.2.2.2.2 (Nat.le_of_ble_eq_true rfl) rfl (fun p e s m args below meth c H locs ls X hw hl => ?_)
  obtain ⟨⟨hx, hb, -, -, -⟩, -⟩ := id X
  unfold g_X12_isBox at hf
  refine lv_iload_n hx hb dX12_isBox_0 rfl (lv_at hl 1 rfl) ?_
  refine r_if_lt (tgt := 21) X dX12_isBox_1 (by decide) hf (fun hc hf => ?_) (fun hc hf => ?_)
  · exact w_X12_isBox_b21 X hw (lv_sub hl [0] rfl) hf
  · refine lv_iload_n hx hb dX12_isBox_4 rfl (lv_at hl 1 rfl) ?_
    refine lv_aload_n hx hb dX12_isBox_5 rfl (lv_at hl 0 rfl) ?_
    refine r_getr 91 X hw sh_86 fd_12_17 rfl rfl lf_X12_63 dX12_isBox_6 ?_
    refine lv_aload_n hx hb dX12_isBox_9 rfl (lv_at hl 0 rfl) ?_
    refine r_geti X hw sh_86 fd_12_13 rfl lf_X12_51 dX12_isBox_10 ?_
    refine r_iald (2 : Int) rfl X hw sh_91 dX12_isBox_13 hf (fun hf => ?_)
    refine r_icmp_ge (tgt := 21) X dX12_isBox_14 (by decide) hf (fun hc hf => ?_) (fun hc hf => ?_)
    · exact w_X12_isBox_b21 X hw (lv_sub hl [0] rfl) hf
    · refine lv_iconst (v := mI 1) hx hb dX12_isBox_17 rfl ?_
      refine lv_goto (tgt := 22) hx hb dX12_isBox_18 (by decide) ?_
      exact w_X12_isBox_b22 X hw (lv_sub hl [0] rfl) hf
def g_X12_has_b128 (F : Nat) (k92 : Int → Int → mMem → mRs) (x3 t0 t1 : Int) (σ : mMem) : mRs := mlet (t0 + t1) (fun y405 => k92 y405 (x3 + 1) σ)
set_option maxRecDepth 100000 in
set_option maxHeartbeats 4000000 in
theorem w_X12_has_b128 {p : Program} {l : Launch} {e : Env} {s : State} {m : MethodId} {args : Array Value} {below : List Frame} {meth : Method} {c : Code} {D : va_G} {cy : Nat → ClassId} {ad : Nat → Nat} {bs : Nat} {F : Nat}  (X : mCx p m c cX12_has 4 s args RX12 meth D cy (some .int))  {r : Int} {σ' : mMem} {k92 : Int → Int → mMem → mRs} (hk92 : ∀ (x2 x3 : Int) (σ : mMem) (H : Heap) (locs : List Loc) (ls : Array Slot), mWd D cy ad bs true mN σ s.heap H locs → lv_has ls 4 [(0, .ref (ad 86)), (2, .int (mI x2)), (3, .int (mI x3))] → k92 x2 x3 σ = some (r, σ') → mGi p l e 3 s m args below meth c D cy ad bs r σ' H locs (F0 m 92 ls [])) {x3 t0 t1 : Int} {σ : mMem} {H : Heap} {locs : List Loc} {ls : Array Slot} (hw : mWd D cy ad bs true mN σ s.heap H locs) (hl : lv_has ls 4 [(0, .ref (ad 86)), (3, .int (mI x3))]) (hf : g_X12_has_b128 F k92 x3 t0 t1 σ = some (r, σ')) : mGi p l e 3 s m args below meth c D cy ad bs r σ' H locs (F0 m 128 ls [.int (mI t1), .int (mI t0)]) := by
  obtain ⟨⟨hx, hb, -, -, -⟩, -⟩ := id X
  unfold g_X12_has_b128 at hf
  refine r_iadd X dX12_has_128 ?_
  refine r_leti hf (fun y405 hf => ?_)
  refine lv_istore_n (lv' := [(2, .int (mI y405)), (0, .ref (ad 86)), (3, .int (mI x3))]) hx hb dX12_has_129 rfl hl (by decide) rfl (fun ls hl => ?_)
  refine lv_iinc (v := mI (x3 + 1)) (lv' := [(3, .int (mI (x3 + 1))), (2, .int (mI y405)), (0, .ref (ad 86))]) hx hb dX12_has_130 hl (k := 2) rfl (mI_add _ _) (by decide) rfl (fun ls hl => ?_)
  refine lv_goto (tgt := 92) hx hb dX12_has_133 (by decide) ?_
  exact hk92 y405 (x3 + 1) σ _ _ _ hw (lv_sub hl [2, 1, 0] rfl) hf
def g_X12_has_b127 (F : Nat) (k92 : Int → Int → mMem → mRs) (x3 t0 : Int) (σ : mMem) : mRs := g_X12_has_b128 F k92 x3 t0 0 σ
set_option maxRecDepth 100000 in
set_option maxHeartbeats 4000000 in
theorem w_X12_has_b127 {p : Program} {l : Launch} {e : Env} {s : State} {m : MethodId} {args : Array Value} {below : List Frame} {meth : Method} {c : Code} {D : va_G} {cy : Nat → ClassId} {ad : Nat → Nat} {bs : Nat} {F : Nat}  (X : mCx p m c cX12_has 4 s args RX12 meth D cy (some .int))  {r : Int} {σ' : mMem} {k92 : Int → Int → mMem → mRs} (hk92 : ∀ (x2 x3 : Int) (σ : mMem) (H : Heap) (locs : List Loc) (ls : Array Slot), mWd D cy ad bs true mN σ s.heap H locs → lv_has ls 4 [(0, .ref (ad 86)), (2, .int (mI x2)), (3, .int (mI x3))] → k92 x2 x3 σ = some (r, σ') → mGi p l e 3 s m args below meth c D cy ad bs r σ' H locs (F0 m 92 ls [])) {x3 t0 : Int} {σ : mMem} {H : Heap} {locs : List Loc} {ls : Array Slot} (hw : mWd D cy ad bs true mN σ s.heap H locs) (hl : lv_has ls 4 [(0, .ref (ad 86)), (3, .int (mI x3))]) (hf : g_X12_has_b127 F k92 x3 t0 σ = some (r, σ')) : mGi p l e 3 s m args below meth c D cy ad bs r σ' H locs (F0 m 127 ls [.int (mI t0)]) := by
  obtain ⟨⟨hx, hb, -, -, -⟩, -⟩ := id X
  unfold g_X12_has_b127 at hf
  refine lv_iconst (v := mI 0) hx hb dX12_has_127 rfl ?_
  exact w_X12_has_b128 X hk92 hw (lv_sub hl [0, 1] rfl) hf
def g_X12_has_h92 (F : Nat)  : Nat → Int → Int → mMem → mRs
  | 0, _, _, _ => none
  | n + 1, x2, x3, σ => if mw 81 ≤ mw x3 then (some (x2, σ)) else (if mw 9 = 0 then none else (if mw 9 = 0 then none else (mob (g_X12_isOn F ((mw x3).tmod (mw 9)) ((mw x3).tdiv (mw 9)) σ) (fun r101 σ102 => if mw r101 = 0 then (g_X12_has_b127 F (g_X12_has_h92 F n) x3 x2 σ102) else (mob (g_X12_isBlack F 0 x3 σ102) (fun r103 σ104 => if mw r103 = 0 then (g_X12_has_b127 F (g_X12_has_h92 F n) x3 x2 σ104) else (g_X12_has_b128 F (g_X12_has_h92 F n) x3 x2 1 σ104)))))))
set_option maxRecDepth 100000 in
set_option maxHeartbeats 4000000 in
theorem w_X12_has_h92 {p : Program} {l : Launch} {e : Env} {s : State} {m : MethodId} {args : Array Value} {below : List Frame} {meth : Method} {c : Code} {D : va_G} {cy : Nat → ClassId} {ad : Nat → Nat} {bs : Nat} {F : Nat}  (X : mCx p m c cX12_has 4 s args RX12 meth D cy (some .int))  {r : Int} {σ' : mMem}   (n : Nat) : ∀ {x2 x3 : Int} {σ : mMem} {H : Heap} {locs : List Loc} {ls : Array Slot} (_ : mWd D cy ad bs true mN σ s.heap H locs) (_ : lv_has ls 4 [(0, .ref (ad 86)), (2, .int (mI x2)), (3, .int (mI x3))]) (_ : g_X12_has_h92 F n x2 x3 σ = some (r, σ')), mGi p l e 3 s m args below meth c D cy ad bs r σ' H locs (F0 m 92 ls []) := by
  obtain ⟨⟨hx, hb, -, -, -⟩, -⟩ := id X
  induction n with
  | zero =>
    intro x2 x3 σ H locs ls hw hl hf
    unfold g_X12_has_h92 at hf
    cases hf
  | succ n ih =>
    have hk92 : ∀ (x2 x3 : Int) (σ : mMem) (H : Heap) (locs : List Loc) (ls : Array Slot), mWd D cy ad bs true mN σ s.heap H locs → lv_has ls 4 [(0, .ref (ad 86)), (2, .int (mI x2)), (3, .int (mI x3))] → g_X12_has_h92 F n x2 x3 σ = some (r, σ') → mGi p l e 3 s m args below meth c D cy ad bs r σ' H locs (F0 m 92 ls []) := fun x2 x3 σ H locs ls hw hl hf => ih hw hl hf
    intro x2 x3 σ H locs ls hw hl hf
    unfold g_X12_has_h92 at hf
    refine lv_iload_n hx hb dX12_has_92 rfl (lv_at hl 2 rfl) ?_
    refine lv_bipush (v := mI 81) hx hb dX12_has_93 (by decide) ?_
    refine r_icmp_ge (tgt := 136) X dX12_has_95 (by decide) hf (fun hc hf => ?_) (fun hc hf => ?_)
    · refine lv_iload_n hx hb dX12_has_136 rfl (lv_at hl 1 rfl) ?_
      exact r_iret X hw dX12_has_137 hf
    · refine lv_iload_n hx hb dX12_has_98 rfl (lv_at hl 1 rfl) ?_
      refine lv_aload_n hx hb dX12_has_99 rfl (lv_at hl 0 rfl) ?_
      refine lv_iload_n hx hb dX12_has_100 rfl (lv_at hl 2 rfl) ?_
      refine lv_bipush (v := mI 9) hx hb dX12_has_101 (by decide) ?_
      refine r_irem X dX12_has_103 hf (fun hf => ?_)
      refine lv_iload_n hx hb dX12_has_104 rfl (lv_at hl 2 rfl) ?_
      refine lv_bipush (v := mI 9) hx hb dX12_has_105 (by decide) ?_
      refine r_idiv X dX12_has_107 hf (fun hf => ?_)
      refine r_cvi (rest := [.int (mI x2)]) [.int (mI ((mw x3).tmod (mw 9))), .int (mI ((mw x3).tdiv (mw 9)))] X hw (fun ra σa h => c_X12_isOn l D cy ad bs F ((mw x3).tmod (mw 9)) ((mw x3).tdiv (mw 9)) σ ra σa  h) sh_86 rfl (by decide) rfl km_X12_isOn kv_X12_isOn lm_X12_446 dX12_has_108 hl.1 rfl rfl (Nat.le_of_ble_eq_true rfl) ⟨by decide, by decide⟩ ⟨Nat.zero_le _, Nat.zero_le _⟩ hf (fun r101 σ102 _ hf H locs hw => ?_)
      refine r_if_eq (tgt := 127) X dX12_has_111 (by decide) hf (fun hc hf => ?_) (fun hc hf => ?_)
      · exact w_X12_has_b127 X hk92 hw (lv_sub hl [0, 2] rfl) hf
      · refine lv_aload_n hx hb dX12_has_114 rfl (lv_at hl 0 rfl) ?_
        refine lv_iconst (v := mI 0) hx hb dX12_has_115 rfl ?_
        refine lv_iload_n hx hb dX12_has_116 rfl (lv_at hl 2 rfl) ?_
        refine r_cvi (rest := [.int (mI x2)]) [.int (mI 0), .int (mI x3)] X hw (fun ra σa h => c_X12_isBlack l D cy ad bs F 0 x3 σ102 ra σa  h) sh_86 rfl (by decide) rfl km_X12_isBlack kv_X12_isBlack lm_X12_489 dX12_has_117 hl.1 rfl rfl (Nat.le_of_ble_eq_true rfl) ⟨by decide, by decide⟩ ⟨Nat.zero_le _, Nat.zero_le _⟩ hf (fun r103 σ104 _ hf H locs hw => ?_)
        refine r_if_eq (tgt := 127) X dX12_has_120 (by decide) hf (fun hc hf => ?_) (fun hc hf => ?_)
        · exact w_X12_has_b127 X hk92 hw (lv_sub hl [0, 2] rfl) hf
        · refine lv_iconst (v := mI 1) hx hb dX12_has_123 rfl ?_
          refine lv_goto (tgt := 128) hx hb dX12_has_124 (by decide) ?_
          exact w_X12_has_b128 X hk92 hw (lv_sub hl [0, 2] rfl) hf
def g_X12_has_b182 (F : Nat) (k154 : Int → Int → mMem → mRs) (x3 t0 t1 : Int) (σ : mMem) : mRs := mlet (t0 + t1) (fun y606 => k154 y606 (x3 + 1) σ)
set_option maxRecDepth 100000 in
set_option maxHeartbeats 4000000 in
theorem w_X12_has_b182 {p : Program} {l : Launch} {e : Env} {s : State} {m : MethodId} {args : Array Value} {below : List Frame} {meth : Method} {c : Code} {D : va_G} {cy : Nat → ClassId} {ad : Nat → Nat} {bs : Nat} {F : Nat}  (X : mCx p m c cX12_has 4 s args RX12 meth D cy (some .int))  {r : Int} {σ' : mMem} {k154 : Int → Int → mMem → mRs} (hk154 : ∀ (x2 x3 : Int) (σ : mMem) (H : Heap) (locs : List Loc) (ls : Array Slot), mWd D cy ad bs true mN σ s.heap H locs → lv_has ls 4 [(0, .ref (ad 86)), (2, .int (mI x2)), (3, .int (mI x3))] → k154 x2 x3 σ = some (r, σ') → mGi p l e 3 s m args below meth c D cy ad bs r σ' H locs (F0 m 154 ls [])) {x3 t0 t1 : Int} {σ : mMem} {H : Heap} {locs : List Loc} {ls : Array Slot} (hw : mWd D cy ad bs true mN σ s.heap H locs) (hl : lv_has ls 4 [(0, .ref (ad 86)), (3, .int (mI x3))]) (hf : g_X12_has_b182 F k154 x3 t0 t1 σ = some (r, σ')) : mGi p l e 3 s m args below meth c D cy ad bs r σ' H locs (F0 m 182 ls [.int (mI t1), .int (mI t0)]) := by
  obtain ⟨⟨hx, hb, -, -, -⟩, -⟩ := id X
  unfold g_X12_has_b182 at hf
  refine r_iadd X dX12_has_182 ?_
  refine r_leti hf (fun y606 hf => ?_)
  refine lv_istore_n (lv' := [(2, .int (mI y606)), (0, .ref (ad 86)), (3, .int (mI x3))]) hx hb dX12_has_183 rfl hl (by decide) rfl (fun ls hl => ?_)
  refine lv_iinc (v := mI (x3 + 1)) (lv' := [(3, .int (mI (x3 + 1))), (2, .int (mI y606)), (0, .ref (ad 86))]) hx hb dX12_has_184 hl (k := 2) rfl (mI_add _ _) (by decide) rfl (fun ls hl => ?_)
  refine lv_goto (tgt := 154) hx hb dX12_has_187 (by decide) ?_
  exact hk154 y606 (x3 + 1) σ _ _ _ hw (lv_sub hl [2, 1, 0] rfl) hf
def g_X12_has_h154 (F : Nat)  : Nat → Int → Int → mMem → mRs
  | 0, _, _, _ => none
  | n + 1, x2, x3, σ => if 0 ≤ mw (σ 86 13) ∧ mw (σ 86 13) < (2 : Int) then if mw (σ 91 (mw (σ 86 13)).toNat) ≤ mw x3 then (some (x2, σ)) else (if 0 ≤ mw x3 ∧ mw x3 < (132 : Int) then if mw (σ 115 (mw x3).toNat) ≤ 0 then (g_X12_has_b182 F (g_X12_has_h154 F n) x3 x2 0 σ) else (g_X12_has_b182 F (g_X12_has_h154 F n) x3 x2 1 σ) else none) else none
set_option maxRecDepth 100000 in
set_option maxHeartbeats 4000000 in
theorem w_X12_has_h154 {p : Program} {l : Launch} {e : Env} {s : State} {m : MethodId} {args : Array Value} {below : List Frame} {meth : Method} {c : Code} {D : va_G} {cy : Nat → ClassId} {ad : Nat → Nat} {bs : Nat} {F : Nat}  (X : mCx p m c cX12_has 4 s args RX12 meth D cy (some .int))  {r : Int} {σ' : mMem}   (n : Nat) : ∀ {x2 x3 : Int} {σ : mMem} {H : Heap} {locs : List Loc} {ls : Array Slot} (_ : mWd D cy ad bs true mN σ s.heap H locs) (_ : lv_has ls 4 [(0, .ref (ad 86)), (2, .int (mI x2)), (3, .int (mI x3))]) (_ : g_X12_has_h154 F n x2 x3 σ = some (r, σ')), mGi p l e 3 s m args below meth c D cy ad bs r σ' H locs (F0 m 154 ls []) := by
  obtain ⟨⟨hx, hb, -, -, -⟩, -⟩ := id X
  induction n with
  | zero =>
    intro x2 x3 σ H locs ls hw hl hf
    unfold g_X12_has_h154 at hf
    cases hf
  | succ n ih =>
    have hk154 : ∀ (x2 x3 : Int) (σ : mMem) (H : Heap) (locs : List Loc) (ls : Array Slot), mWd D cy ad bs true mN σ s.heap H locs → lv_has ls 4 [(0, .ref (ad 86)), (2, .int (mI x2)), (3, .int (mI x3))] → g_X12_has_h154 F n x2 x3 σ = some (r, σ') → mGi p l e 3 s m args below meth c D cy ad bs r σ' H locs (F0 m 154 ls []) := fun x2 x3 σ H locs ls hw hl hf => ih hw hl hf
    intro x2 x3 σ H locs ls hw hl hf
    unfold g_X12_has_h154 at hf
    refine lv_iload_n hx hb dX12_has_154 rfl (lv_at hl 2 rfl) ?_
    refine lv_aload_n hx hb dX12_has_155 rfl (lv_at hl 0 rfl) ?_
    refine r_getr 91 X hw sh_86 fd_12_17 rfl rfl lf_X12_63 dX12_has_156 ?_
    refine lv_aload_n hx hb dX12_has_159 rfl (lv_at hl 0 rfl) ?_
    refine r_geti X hw sh_86 fd_12_13 rfl lf_X12_51 dX12_has_160 ?_
    refine r_iald (2 : Int) rfl X hw sh_91 dX12_has_163 hf (fun hf => ?_)
    refine r_icmp_ge (tgt := 190) X dX12_has_164 (by decide) hf (fun hc hf => ?_) (fun hc hf => ?_)
    · refine lv_iload_n hx hb dX12_has_190 rfl (lv_at hl 1 rfl) ?_
      exact r_iret X hw dX12_has_191 hf
    · refine lv_iload_n hx hb dX12_has_167 rfl (lv_at hl 1 rfl) ?_
      refine lv_aload_n hx hb dX12_has_168 rfl (lv_at hl 0 rfl) ?_
      refine r_getr 115 X hw sh_86 fd_12_48 rfl rfl lf_X12_159 dX12_has_169 ?_
      refine lv_iload_n hx hb dX12_has_172 rfl (lv_at hl 2 rfl) ?_
      refine r_iald (132 : Int) rfl X hw sh_115 dX12_has_173 hf (fun hf => ?_)
      refine r_if_le (tgt := 181) X dX12_has_174 (by decide) hf (fun hc hf => ?_) (fun hc hf => ?_)
      · refine lv_iconst (v := mI 0) hx hb dX12_has_181 rfl ?_
        exact w_X12_has_b182 X hk154 hw (lv_sub hl [0, 2] rfl) hf
      · refine lv_iconst (v := mI 1) hx hb dX12_has_177 rfl ?_
        refine lv_goto (tgt := 182) hx hb dX12_has_178 (by decide) ?_
        exact w_X12_has_b182 X hk154 hw (lv_sub hl [0, 2] rfl) hf
def g_X12_has_b222 (F : Nat) (k194 : Int → Int → mMem → mRs) (x3 t0 t1 : Int) (σ : mMem) : mRs := mlet (t0 + t1) (fun y707 => k194 y707 (x3 + 1) σ)
set_option maxRecDepth 100000 in
set_option maxHeartbeats 4000000 in
theorem w_X12_has_b222 {p : Program} {l : Launch} {e : Env} {s : State} {m : MethodId} {args : Array Value} {below : List Frame} {meth : Method} {c : Code} {D : va_G} {cy : Nat → ClassId} {ad : Nat → Nat} {bs : Nat} {F : Nat}  (X : mCx p m c cX12_has 4 s args RX12 meth D cy (some .int))  {r : Int} {σ' : mMem} {k194 : Int → Int → mMem → mRs} (hk194 : ∀ (x2 x3 : Int) (σ : mMem) (H : Heap) (locs : List Loc) (ls : Array Slot), mWd D cy ad bs true mN σ s.heap H locs → lv_has ls 4 [(0, .ref (ad 86)), (2, .int (mI x2)), (3, .int (mI x3))] → k194 x2 x3 σ = some (r, σ') → mGi p l e 3 s m args below meth c D cy ad bs r σ' H locs (F0 m 194 ls [])) {x3 t0 t1 : Int} {σ : mMem} {H : Heap} {locs : List Loc} {ls : Array Slot} (hw : mWd D cy ad bs true mN σ s.heap H locs) (hl : lv_has ls 4 [(0, .ref (ad 86)), (3, .int (mI x3))]) (hf : g_X12_has_b222 F k194 x3 t0 t1 σ = some (r, σ')) : mGi p l e 3 s m args below meth c D cy ad bs r σ' H locs (F0 m 222 ls [.int (mI t1), .int (mI t0)]) := by
  obtain ⟨⟨hx, hb, -, -, -⟩, -⟩ := id X
  unfold g_X12_has_b222 at hf
  refine r_iadd X dX12_has_222 ?_
  refine r_leti hf (fun y707 hf => ?_)
  refine lv_istore_n (lv' := [(2, .int (mI y707)), (0, .ref (ad 86)), (3, .int (mI x3))]) hx hb dX12_has_223 rfl hl (by decide) rfl (fun ls hl => ?_)
  refine lv_iinc (v := mI (x3 + 1)) (lv' := [(3, .int (mI (x3 + 1))), (2, .int (mI y707)), (0, .ref (ad 86))]) hx hb dX12_has_224 hl (k := 2) rfl (mI_add _ _) (by decide) rfl (fun ls hl => ?_)
  refine lv_goto (tgt := 194) hx hb dX12_has_227 (by decide) ?_
  exact hk194 y707 (x3 + 1) σ _ _ _ hw (lv_sub hl [2, 1, 0] rfl) hf
def g_X12_has_h194 (F : Nat)  : Nat → Int → Int → mMem → mRs
  | 0, _, _, _ => none
  | n + 1, x2, x3, σ => if 0 ≤ mw (σ 86 13) ∧ mw (σ 86 13) < (2 : Int) then if mw (σ 91 (mw (σ 86 13)).toNat) ≤ mw x3 then (some (x2, σ)) else (if 0 ≤ mw x3 ∧ mw x3 < (132 : Int) then if ¬ mw (σ 114 (mw x3).toNat) = 0 then (g_X12_has_b222 F (g_X12_has_h194 F n) x3 x2 0 σ) else (g_X12_has_b222 F (g_X12_has_h194 F n) x3 x2 1 σ) else none) else none
set_option maxRecDepth 100000 in
set_option maxHeartbeats 4000000 in
theorem w_X12_has_h194 {p : Program} {l : Launch} {e : Env} {s : State} {m : MethodId} {args : Array Value} {below : List Frame} {meth : Method} {c : Code} {D : va_G} {cy : Nat → ClassId} {ad : Nat → Nat} {bs : Nat} {F : Nat}  (X : mCx p m c cX12_has 4 s args RX12 meth D cy (some .int))  {r : Int} {σ' : mMem}   (n : Nat) : ∀ {x2 x3 : Int} {σ : mMem} {H : Heap} {locs : List Loc} {ls : Array Slot} (_ : mWd D cy ad bs true mN σ s.heap H locs) (_ : lv_has ls 4 [(0, .ref (ad 86)), (2, .int (mI x2)), (3, .int (mI x3))]) (_ : g_X12_has_h194 F n x2 x3 σ = some (r, σ')), mGi p l e 3 s m args below meth c D cy ad bs r σ' H locs (F0 m 194 ls []) := by
  obtain ⟨⟨hx, hb, -, -, -⟩, -⟩ := id X
  induction n with
  | zero =>
    intro x2 x3 σ H locs ls hw hl hf
    unfold g_X12_has_h194 at hf
    cases hf
  | succ n ih =>
    have hk194 : ∀ (x2 x3 : Int) (σ : mMem) (H : Heap) (locs : List Loc) (ls : Array Slot), mWd D cy ad bs true mN σ s.heap H locs → lv_has ls 4 [(0, .ref (ad 86)), (2, .int (mI x2)), (3, .int (mI x3))] → g_X12_has_h194 F n x2 x3 σ = some (r, σ') → mGi p l e 3 s m args below meth c D cy ad bs r σ' H locs (F0 m 194 ls []) := fun x2 x3 σ H locs ls hw hl hf => ih hw hl hf
    intro x2 x3 σ H locs ls hw hl hf
    unfold g_X12_has_h194 at hf
    refine lv_iload_n hx hb dX12_has_194 rfl (lv_at hl 2 rfl) ?_
    refine lv_aload_n hx hb dX12_has_195 rfl (lv_at hl 0 rfl) ?_
    refine r_getr 91 X hw sh_86 fd_12_17 rfl rfl lf_X12_63 dX12_has_196 ?_
    refine lv_aload_n hx hb dX12_has_199 rfl (lv_at hl 0 rfl) ?_
    refine r_geti X hw sh_86 fd_12_13 rfl lf_X12_51 dX12_has_200 ?_
    refine r_iald (2 : Int) rfl X hw sh_91 dX12_has_203 hf (fun hf => ?_)
    refine r_icmp_ge (tgt := 230) X dX12_has_204 (by decide) hf (fun hc hf => ?_) (fun hc hf => ?_)
    · refine lv_iload_n hx hb dX12_has_230 rfl (lv_at hl 1 rfl) ?_
      exact r_iret X hw dX12_has_231 hf
    · refine lv_iload_n hx hb dX12_has_207 rfl (lv_at hl 1 rfl) ?_
      refine lv_aload_n hx hb dX12_has_208 rfl (lv_at hl 0 rfl) ?_
      refine r_getr 114 X hw sh_86 fd_12_47 rfl rfl lf_X12_156 dX12_has_209 ?_
      refine lv_iload_n hx hb dX12_has_212 rfl (lv_at hl 2 rfl) ?_
      refine r_iald (132 : Int) rfl X hw sh_114 dX12_has_213 hf (fun hf => ?_)
      refine r_if_ne (tgt := 221) X dX12_has_214 (by decide) hf (fun hc hf => ?_) (fun hc hf => ?_)
      · refine lv_iconst (v := mI 0) hx hb dX12_has_221 rfl ?_
        exact w_X12_has_b222 X hk194 hw (lv_sub hl [0, 2] rfl) hf
      · refine lv_iconst (v := mI 1) hx hb dX12_has_217 rfl ?_
        refine lv_goto (tgt := 222) hx hb dX12_has_218 (by decide) ?_
        exact w_X12_has_b222 X hk194 hw (lv_sub hl [0, 2] rfl) hf
def g_X12_has (F : Nat) (x1 : Int) (σ : mMem) : mRs := if mw x1 = 0 then (if 0 ≤ mw (σ 86 13) ∧ mw (σ 86 13) < (2 : Int) then some (σ 88 (mw (σ 86 13)).toNat, σ) else none) else (if mw x1 = 1 then (if 0 ≤ mw (σ 86 13) ∧ mw (σ 86 13) < (2 : Int) then some (σ 89 (mw (σ 86 13)).toNat, σ) else none) else (if mw x1 = 2 then (if 0 ≤ mw (σ 86 13) ∧ mw (σ 86 13) < (2 : Int) then some (σ 91 (mw (σ 86 13)).toNat, σ) else none) else (if mw x1 = 3 then (g_X12_has_h92 F F 0 0 σ) else (if mw x1 = 4 then (if 0 ≤ mw 0 ∧ mw 0 < (22 : Int) then some (σ 110 (mw 0).toNat, σ) else none) else (if mw x1 = 5 then (if 0 ≤ mw 0 ∧ mw 0 < (22 : Int) then some (σ 111 (mw 0).toNat, σ) else none) else (if mw x1 = 6 then (g_X12_has_h154 F F 0 0 σ) else (if mw x1 = 7 then (g_X12_has_h194 F F 0 0 σ) else (if mw x1 = 8 then (if 0 ≤ mw 0 ∧ mw 0 < (22 : Int) then some (σ 117 (mw 0).toNat, σ) else none) else (if mw x1 = 9 then (some (σ 86 53, σ)) else (if mw x1 = 10 then (some (σ 86 54, σ)) else (some ((-1), σ))))))))))))
set_option maxRecDepth 100000 in
set_option maxHeartbeats 4000000 in
theorem c_X12_has (l : Launch) (D : va_G) (cy : Nat → ClassId) (ad : Nat → Nat) (bs : Nat) (F : Nat)  (x1 : Int) (σ : mMem) (r : Int) (σ' : mMem)  (hf : g_X12_has F x1 σ = some (r, σ')) : mCi l D cy ad bs yX12_has cX12_has 4 (some .int) 3 [.ref (ad 86), .int (mI x1)] σ r σ' := by
  refine mCi.of (lv := [(0, .ref (ad 86)), (1, .int (mI x1))]) km_X12_has.2.2.2.2.2 (Nat.le_of_ble_eq_true rfl) rfl (fun p e s m args below meth c H locs ls X hw hl => ?_)
  obtain ⟨⟨hx, hb, -, -, -⟩, -⟩ := id X
  unfold g_X12_has at hf
  refine lv_iconst (v := mI 0) hx hb dX12_has_0 rfl ?_
  refine lv_istore_n (lv' := [(2, .int (mI 0)), (0, .ref (ad 86)), (1, .int (mI x1))]) hx hb dX12_has_1 rfl hl (by decide) rfl (fun ls hl => ?_)
  refine lv_iload_n hx hb dX12_has_2 rfl (lv_at hl 2 rfl) ?_
  refine r_case hf (fun hc0 hf => ?_) (fun hc0 hf => ?_)
  · refine r_tin (k := 0) (off := 57) (tgt := 60) X dX12_has_3 hc0 (by decide) (by decide) rfl (by decide) ?_
    refine lv_aload_n hx hb dX12_has_60 rfl (lv_at hl 1 rfl) ?_
    refine r_getr 88 X hw sh_86 fd_12_14 rfl rfl lf_X12_54 dX12_has_61 ?_
    refine lv_aload_n hx hb dX12_has_64 rfl (lv_at hl 1 rfl) ?_
    refine r_geti X hw sh_86 fd_12_13 rfl lf_X12_51 dX12_has_65 ?_
    refine r_iald (2 : Int) rfl X hw sh_88 dX12_has_68 hf (fun hf => ?_)
    exact r_iret X hw dX12_has_69 hf
  refine r_case hf (fun hc1 hf => ?_) (fun hc1 hf => ?_)
  · refine r_tin (k := 1) (off := 67) (tgt := 70) X dX12_has_3 hc1 (by decide) (by decide) rfl (by decide) ?_
    refine lv_aload_n hx hb dX12_has_70 rfl (lv_at hl 1 rfl) ?_
    refine r_getr 89 X hw sh_86 fd_12_15 rfl rfl lf_X12_57 dX12_has_71 ?_
    refine lv_aload_n hx hb dX12_has_74 rfl (lv_at hl 1 rfl) ?_
    refine r_geti X hw sh_86 fd_12_13 rfl lf_X12_51 dX12_has_75 ?_
    refine r_iald (2 : Int) rfl X hw sh_89 dX12_has_78 hf (fun hf => ?_)
    exact r_iret X hw dX12_has_79 hf
  refine r_case hf (fun hc2 hf => ?_) (fun hc2 hf => ?_)
  · refine r_tin (k := 2) (off := 77) (tgt := 80) X dX12_has_3 hc2 (by decide) (by decide) rfl (by decide) ?_
    refine lv_aload_n hx hb dX12_has_80 rfl (lv_at hl 1 rfl) ?_
    refine r_getr 91 X hw sh_86 fd_12_17 rfl rfl lf_X12_63 dX12_has_81 ?_
    refine lv_aload_n hx hb dX12_has_84 rfl (lv_at hl 1 rfl) ?_
    refine r_geti X hw sh_86 fd_12_13 rfl lf_X12_51 dX12_has_85 ?_
    refine r_iald (2 : Int) rfl X hw sh_91 dX12_has_88 hf (fun hf => ?_)
    exact r_iret X hw dX12_has_89 hf
  refine r_case hf (fun hc3 hf => ?_) (fun hc3 hf => ?_)
  · refine r_tin (k := 3) (off := 87) (tgt := 90) X dX12_has_3 hc3 (by decide) (by decide) rfl (by decide) ?_
    refine lv_iconst (v := mI 0) hx hb dX12_has_90 rfl ?_
    refine lv_istore_n (lv' := [(3, .int (mI 0)), (2, .int (mI 0)), (0, .ref (ad 86)), (1, .int (mI x1))]) hx hb dX12_has_91 rfl hl (by decide) rfl (fun ls hl => ?_)
    exact w_X12_has_h92 X _ hw (lv_sub hl [2, 1, 0] rfl) hf
  refine r_case hf (fun hc4 hf => ?_) (fun hc4 hf => ?_)
  · refine r_tin (k := 4) (off := 135) (tgt := 138) X dX12_has_3 hc4 (by decide) (by decide) rfl (by decide) ?_
    refine lv_aload_n hx hb dX12_has_138 rfl (lv_at hl 1 rfl) ?_
    refine r_getr 110 X hw sh_86 fd_12_43 rfl rfl lf_X12_144 dX12_has_139 ?_
    refine lv_iconst (v := mI 0) hx hb dX12_has_142 rfl ?_
    refine r_iald (22 : Int) rfl X hw sh_110 dX12_has_143 hf (fun hf => ?_)
    exact r_iret X hw dX12_has_144 hf
  refine r_case hf (fun hc5 hf => ?_) (fun hc5 hf => ?_)
  · refine r_tin (k := 5) (off := 142) (tgt := 145) X dX12_has_3 hc5 (by decide) (by decide) rfl (by decide) ?_
    refine lv_aload_n hx hb dX12_has_145 rfl (lv_at hl 1 rfl) ?_
    refine r_getr 111 X hw sh_86 fd_12_44 rfl rfl lf_X12_147 dX12_has_146 ?_
    refine lv_iconst (v := mI 0) hx hb dX12_has_149 rfl ?_
    refine r_iald (22 : Int) rfl X hw sh_111 dX12_has_150 hf (fun hf => ?_)
    exact r_iret X hw dX12_has_151 hf
  refine r_case hf (fun hc6 hf => ?_) (fun hc6 hf => ?_)
  · refine r_tin (k := 6) (off := 149) (tgt := 152) X dX12_has_3 hc6 (by decide) (by decide) rfl (by decide) ?_
    refine lv_iconst (v := mI 0) hx hb dX12_has_152 rfl ?_
    refine lv_istore_n (lv' := [(3, .int (mI 0)), (2, .int (mI 0)), (0, .ref (ad 86)), (1, .int (mI x1))]) hx hb dX12_has_153 rfl hl (by decide) rfl (fun ls hl => ?_)
    exact w_X12_has_h154 X _ hw (lv_sub hl [2, 1, 0] rfl) hf
  refine r_case hf (fun hc7 hf => ?_) (fun hc7 hf => ?_)
  · refine r_tin (k := 7) (off := 189) (tgt := 192) X dX12_has_3 hc7 (by decide) (by decide) rfl (by decide) ?_
    refine lv_iconst (v := mI 0) hx hb dX12_has_192 rfl ?_
    refine lv_istore_n (lv' := [(3, .int (mI 0)), (2, .int (mI 0)), (0, .ref (ad 86)), (1, .int (mI x1))]) hx hb dX12_has_193 rfl hl (by decide) rfl (fun ls hl => ?_)
    exact w_X12_has_h194 X _ hw (lv_sub hl [2, 1, 0] rfl) hf
  refine r_case hf (fun hc8 hf => ?_) (fun hc8 hf => ?_)
  · refine r_tin (k := 8) (off := 229) (tgt := 232) X dX12_has_3 hc8 (by decide) (by decide) rfl (by decide) ?_
    refine lv_aload_n hx hb dX12_has_232 rfl (lv_at hl 1 rfl) ?_
    refine r_getr 117 X hw sh_86 fd_12_50 rfl rfl lf_X12_165 dX12_has_233 ?_
    refine lv_iconst (v := mI 0) hx hb dX12_has_236 rfl ?_
    refine r_iald (22 : Int) rfl X hw sh_117 dX12_has_237 hf (fun hf => ?_)
    exact r_iret X hw dX12_has_238 hf
  refine r_case hf (fun hc9 hf => ?_) (fun hc9 hf => ?_)
  · refine r_tin (k := 9) (off := 236) (tgt := 239) X dX12_has_3 hc9 (by decide) (by decide) rfl (by decide) ?_
    refine lv_aload_n hx hb dX12_has_239 rfl (lv_at hl 1 rfl) ?_
    refine r_geti X hw sh_86 fd_12_53 rfl lf_X12_174 dX12_has_240 ?_
    exact r_iret X hw dX12_has_243 hf
  refine r_case hf (fun hc10 hf => ?_) (fun hc10 hf => ?_)
  · refine r_tin (k := 10) (off := 241) (tgt := 244) X dX12_has_3 hc10 (by decide) (by decide) rfl (by decide) ?_
    refine lv_aload_n hx hb dX12_has_244 rfl (lv_at hl 1 rfl) ?_
    refine r_getl X hw sh_86 fd_12_54 rfl lf_X12_177 dX12_has_245 ?_
    refine r_l2i X dX12_has_248 ?_
    exact r_iret X hw dX12_has_249 hf
  refine r_tout (tgt := 250) X dX12_has_3 (by omega) (by decide) ?_
  refine lv_iconst (v := mI (-1)) hx hb dX12_has_250 rfl ?_
  exact r_iret X hw dX12_has_251 hf
