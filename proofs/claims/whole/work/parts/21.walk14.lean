def g_X12_spaced_b96 (F : Nat)  (x2 : Int) (σ : mMem) : mRs := mlm (mup σ 86 62 0) (fun σ206 => some (x2, σ206))
set_option maxRecDepth 100000 in
set_option maxHeartbeats 4000000 in
theorem w_X12_spaced_b96 {p : Program} {l : Launch} {e : Env} {s : State} {m : MethodId} {args : Array Value} {below : List Frame} {meth : Method} {c : Code} {D : va_G} {cy : Nat → ClassId} {ad : Nat → Nat} {bs : Nat} {F : Nat}  (X : mCx p m c cX12_spaced 6 s args RX12 meth D cy (some .int))  {r : Int} {σ' : mMem}   {x2 : Int} {σ : mMem} {H : Heap} {locs : List Loc} {ls : Array Slot} (hw : mWd D cy ad bs true mN σ s.heap H locs) (hl : lv_has ls 6 [(0, .ref (ad 86)), (2, .int (mI x2))]) (hf : g_X12_spaced_b96 F x2 σ = some (r, σ')) : mGi p l e 8 s m args below meth c D cy ad bs r σ' H locs (F0 m 96 ls []) := by
  obtain ⟨⟨hx, hb, -, -, -⟩, -⟩ := id X
  unfold g_X12_spaced_b96 at hf
  refine lv_aload_n hx hb dX12_spaced_96 rfl (lv_at hl 0 rfl) ?_
  refine lv_iconst (v := mI 0) hx hb dX12_spaced_97 rfl ?_
  refine r_puti X hw sh_86 fd_12_62 fp_12_62 rfl rfl lf_X12_201 dX12_spaced_98 (fun H locs hw => ?_)
  refine r_mem hf hw (fun σ206 hw hf => ?_)
  refine lv_iload_n hx hb dX12_spaced_101 rfl (lv_at hl 1 rfl) ?_
  exact r_iret X hw dX12_spaced_102 hf
def g_X12_spaced_b90 (F : Nat) (k17 : Int → Int → Int → mMem → mRs) (x1 x2 x3 : Int) (σ : mMem) : mRs := k17 x1 x2 (x3 + 1) σ
set_option maxRecDepth 100000 in
set_option maxHeartbeats 4000000 in
theorem w_X12_spaced_b90 {p : Program} {l : Launch} {e : Env} {s : State} {m : MethodId} {args : Array Value} {below : List Frame} {meth : Method} {c : Code} {D : va_G} {cy : Nat → ClassId} {ad : Nat → Nat} {bs : Nat} {F : Nat}  (X : mCx p m c cX12_spaced 6 s args RX12 meth D cy (some .int))  {r : Int} {σ' : mMem} {k17 : Int → Int → Int → mMem → mRs} (hk17 : ∀ (x1 x2 x3 : Int) (σ : mMem) (H : Heap) (locs : List Loc) (ls : Array Slot), mWd D cy ad bs true mN σ s.heap H locs → lv_has ls 6 [(0, .ref (ad 86)), (1, .int (mI x1)), (2, .int (mI x2)), (3, .int (mI x3))] → k17 x1 x2 x3 σ = some (r, σ') → mGi p l e 8 s m args below meth c D cy ad bs r σ' H locs (F0 m 17 ls [])) {x1 x2 x3 : Int} {σ : mMem} {H : Heap} {locs : List Loc} {ls : Array Slot} (hw : mWd D cy ad bs true mN σ s.heap H locs) (hl : lv_has ls 6 [(0, .ref (ad 86)), (1, .int (mI x1)), (2, .int (mI x2)), (3, .int (mI x3))]) (hf : g_X12_spaced_b90 F k17 x1 x2 x3 σ = some (r, σ')) : mGi p l e 8 s m args below meth c D cy ad bs r σ' H locs (F0 m 90 ls []) := by
  obtain ⟨⟨hx, hb, -, -, -⟩, -⟩ := id X
  unfold g_X12_spaced_b90 at hf
  refine lv_iinc (v := mI (x3 + 1)) (lv' := [(3, .int (mI (x3 + 1))), (0, .ref (ad 86)), (1, .int (mI x1)), (2, .int (mI x2))]) hx hb dX12_spaced_90 hl (k := 3) rfl (mI_add _ _) (by decide) rfl (fun ls hl => ?_)
  refine lv_goto (tgt := 17) hx hb dX12_spaced_93 (by decide) ?_
  exact hk17 x1 x2 (x3 + 1) σ _ _ _ hw (lv_sub hl [1, 2, 3, 0] rfl) hf
def g_X12_spaced_b83 (F : Nat) (k17 : Int → Int → Int → mMem → mRs) (x1 x2 x3 x4 : Int) (σ : mMem) : mRs := if mw x4 = 0 then (g_X12_spaced_b90 F k17 x1 x2 x3 σ) else (g_X12_spaced_b90 F k17 x1 x3 x3 σ)
set_option maxRecDepth 100000 in
set_option maxHeartbeats 4000000 in
theorem w_X12_spaced_b83 {p : Program} {l : Launch} {e : Env} {s : State} {m : MethodId} {args : Array Value} {below : List Frame} {meth : Method} {c : Code} {D : va_G} {cy : Nat → ClassId} {ad : Nat → Nat} {bs : Nat} {F : Nat}  (X : mCx p m c cX12_spaced 6 s args RX12 meth D cy (some .int))  {r : Int} {σ' : mMem} {k17 : Int → Int → Int → mMem → mRs} (hk17 : ∀ (x1 x2 x3 : Int) (σ : mMem) (H : Heap) (locs : List Loc) (ls : Array Slot), mWd D cy ad bs true mN σ s.heap H locs → lv_has ls 6 [(0, .ref (ad 86)), (1, .int (mI x1)), (2, .int (mI x2)), (3, .int (mI x3))] → k17 x1 x2 x3 σ = some (r, σ') → mGi p l e 8 s m args below meth c D cy ad bs r σ' H locs (F0 m 17 ls [])) {x1 x2 x3 x4 : Int} {σ : mMem} {H : Heap} {locs : List Loc} {ls : Array Slot} (hw : mWd D cy ad bs true mN σ s.heap H locs) (hl : lv_has ls 6 [(0, .ref (ad 86)), (1, .int (mI x1)), (2, .int (mI x2)), (3, .int (mI x3)), (4, .int (mI x4))]) (hf : g_X12_spaced_b83 F k17 x1 x2 x3 x4 σ = some (r, σ')) : mGi p l e 8 s m args below meth c D cy ad bs r σ' H locs (F0 m 83 ls []) := by
  obtain ⟨⟨hx, hb, -, -, -⟩, -⟩ := id X
  unfold g_X12_spaced_b83 at hf
  refine lv_iload hx hb dX12_spaced_83 (lv_at hl 4 rfl) ?_
  refine r_if_eq (tgt := 90) X dX12_spaced_85 (by decide) hf (fun hc hf => ?_) (fun hc hf => ?_)
  · exact w_X12_spaced_b90 X hk17 hw (lv_sub hl [0, 1, 2, 3] rfl) hf
  · refine lv_iload_n hx hb dX12_spaced_88 rfl (lv_at hl 3 rfl) ?_
    refine lv_istore_n (lv' := [(2, .int (mI x3)), (0, .ref (ad 86)), (1, .int (mI x1)), (3, .int (mI x3)), (4, .int (mI x4))]) hx hb dX12_spaced_89 rfl hl (by decide) rfl (fun ls hl => ?_)
    exact w_X12_spaced_b90 X hk17 hw (lv_sub hl [1, 2, 0, 3] rfl) hf
def g_X12_spaced_b75 (F : Nat) (k17 : Int → Int → Int → mMem → mRs) (k45 : Int → Int → Int → Int → Int → mMem → mRs) (x1 x2 x3 x5 t0 : Int) (σ : mMem) : mRs := k45 x1 x2 x3 t0 (x5 + 1) σ
set_option maxRecDepth 100000 in
set_option maxHeartbeats 4000000 in
theorem w_X12_spaced_b75 {p : Program} {l : Launch} {e : Env} {s : State} {m : MethodId} {args : Array Value} {below : List Frame} {meth : Method} {c : Code} {D : va_G} {cy : Nat → ClassId} {ad : Nat → Nat} {bs : Nat} {F : Nat}  (X : mCx p m c cX12_spaced 6 s args RX12 meth D cy (some .int))  {r : Int} {σ' : mMem} {k17 : Int → Int → Int → mMem → mRs} {k45 : Int → Int → Int → Int → Int → mMem → mRs} (hk17 : ∀ (x1 x2 x3 : Int) (σ : mMem) (H : Heap) (locs : List Loc) (ls : Array Slot), mWd D cy ad bs true mN σ s.heap H locs → lv_has ls 6 [(0, .ref (ad 86)), (1, .int (mI x1)), (2, .int (mI x2)), (3, .int (mI x3))] → k17 x1 x2 x3 σ = some (r, σ') → mGi p l e 8 s m args below meth c D cy ad bs r σ' H locs (F0 m 17 ls [])) (hk45 : ∀ (x1 x2 x3 x4 x5 : Int) (σ : mMem) (H : Heap) (locs : List Loc) (ls : Array Slot), mWd D cy ad bs true mN σ s.heap H locs → lv_has ls 6 [(0, .ref (ad 86)), (1, .int (mI x1)), (2, .int (mI x2)), (3, .int (mI x3)), (4, .int (mI x4)), (5, .int (mI x5))] → k45 x1 x2 x3 x4 x5 σ = some (r, σ') → mGi p l e 8 s m args below meth c D cy ad bs r σ' H locs (F0 m 45 ls [])) {x1 x2 x3 x5 t0 : Int} {σ : mMem} {H : Heap} {locs : List Loc} {ls : Array Slot} (hw : mWd D cy ad bs true mN σ s.heap H locs) (hl : lv_has ls 6 [(0, .ref (ad 86)), (1, .int (mI x1)), (2, .int (mI x2)), (3, .int (mI x3)), (5, .int (mI x5))]) (hf : g_X12_spaced_b75 F k17 k45 x1 x2 x3 x5 t0 σ = some (r, σ')) : mGi p l e 8 s m args below meth c D cy ad bs r σ' H locs (F0 m 75 ls [.int (mI t0)]) := by
  obtain ⟨⟨hx, hb, -, -, -⟩, -⟩ := id X
  unfold g_X12_spaced_b75 at hf
  refine lv_istore (lv' := [(4, .int (mI t0)), (0, .ref (ad 86)), (1, .int (mI x1)), (2, .int (mI x2)), (3, .int (mI x3)), (5, .int (mI x5))]) hx hb dX12_spaced_75 hl (by decide) rfl (fun ls hl => ?_)
  refine lv_iinc (v := mI (x5 + 1)) (lv' := [(5, .int (mI (x5 + 1))), (4, .int (mI t0)), (0, .ref (ad 86)), (1, .int (mI x1)), (2, .int (mI x2)), (3, .int (mI x3))]) hx hb dX12_spaced_77 hl (k := 5) rfl (mI_add _ _) (by decide) rfl (fun ls hl => ?_)
  refine lv_goto (tgt := 45) hx hb dX12_spaced_80 (by decide) ?_
  exact hk45 x1 x2 x3 t0 (x5 + 1) σ _ _ _ hw (lv_sub hl [2, 3, 4, 5, 1, 0] rfl) hf
def g_X12_spaced_h45 (F : Nat) (k17 : Int → Int → Int → mMem → mRs) : Nat → Int → Int → Int → Int → Int → mMem → mRs
  | 0, _, _, _, _, _, _ => none
  | n + 1, x1, x2, x3, x4, x5, σ => if mw x1 ≤ mw x5 then (g_X12_spaced_b83 F k17 x1 x2 x3 x4 σ) else (if mw x4 = 0 then (g_X12_spaced_b83 F k17 x1 x2 x3 x4 σ) else (mob (g_X12_passes F 1 x5 σ) (fun r307 σ308 => if ¬ mw (σ308 86 64) = 0 then (g_X12_spaced_b75 F k17 (g_X12_spaced_h45 F k17 n) x1 x2 x3 x5 0 σ308) else (g_X12_spaced_b75 F k17 (g_X12_spaced_h45 F k17 n) x1 x2 x3 x5 1 σ308))))
set_option maxRecDepth 100000 in
set_option maxHeartbeats 4000000 in
theorem w_X12_spaced_h45 {p : Program} {l : Launch} {e : Env} {s : State} {m : MethodId} {args : Array Value} {below : List Frame} {meth : Method} {c : Code} {D : va_G} {cy : Nat → ClassId} {ad : Nat → Nat} {bs : Nat} {F : Nat}  (X : mCx p m c cX12_spaced 6 s args RX12 meth D cy (some .int))  {r : Int} {σ' : mMem} {k17 : Int → Int → Int → mMem → mRs} (hk17 : ∀ (x1 x2 x3 : Int) (σ : mMem) (H : Heap) (locs : List Loc) (ls : Array Slot), mWd D cy ad bs true mN σ s.heap H locs → lv_has ls 6 [(0, .ref (ad 86)), (1, .int (mI x1)), (2, .int (mI x2)), (3, .int (mI x3))] → k17 x1 x2 x3 σ = some (r, σ') → mGi p l e 8 s m args below meth c D cy ad bs r σ' H locs (F0 m 17 ls [])) (n : Nat) : ∀ {x1 x2 x3 x4 x5 : Int} {σ : mMem} {H : Heap} {locs : List Loc} {ls : Array Slot} (_ : mWd D cy ad bs true mN σ s.heap H locs) (_ : lv_has ls 6 [(0, .ref (ad 86)), (1, .int (mI x1)), (2, .int (mI x2)), (3, .int (mI x3)), (4, .int (mI x4)), (5, .int (mI x5))]) (_ : g_X12_spaced_h45 F k17 n x1 x2 x3 x4 x5 σ = some (r, σ')), mGi p l e 8 s m args below meth c D cy ad bs r σ' H locs (F0 m 45 ls []) := by
  obtain ⟨⟨hx, hb, -, -, -⟩, -⟩ := id X
  induction n with
  | zero =>
    intro x1 x2 x3 x4 x5 σ H locs ls hw hl hf
    unfold g_X12_spaced_h45 at hf
    cases hf
  | succ n ih =>
    have hk45 : ∀ (x1 x2 x3 x4 x5 : Int) (σ : mMem) (H : Heap) (locs : List Loc) (ls : Array Slot), mWd D cy ad bs true mN σ s.heap H locs → lv_has ls 6 [(0, .ref (ad 86)), (1, .int (mI x1)), (2, .int (mI x2)), (3, .int (mI x3)), (4, .int (mI x4)), (5, .int (mI x5))] → g_X12_spaced_h45 F k17 n x1 x2 x3 x4 x5 σ = some (r, σ') → mGi p l e 8 s m args below meth c D cy ad bs r σ' H locs (F0 m 45 ls []) := fun x1 x2 x3 x4 x5 σ H locs ls hw hl hf => ih hw hl hf
    intro x1 x2 x3 x4 x5 σ H locs ls hw hl hf
    unfold g_X12_spaced_h45 at hf
    refine lv_iload hx hb dX12_spaced_45 (lv_at hl 5 rfl) ?_
    refine lv_iload_n hx hb dX12_spaced_47 rfl (lv_at hl 1 rfl) ?_
    refine r_icmp_ge (tgt := 83) X dX12_spaced_48 (by decide) hf (fun hc hf => ?_) (fun hc hf => ?_)
    · exact w_X12_spaced_b83 X hk17 hw (lv_sub hl [0, 1, 2, 3, 4] rfl) hf
    · refine lv_iload hx hb dX12_spaced_51 (lv_at hl 4 rfl) ?_
      refine r_if_eq (tgt := 83) X dX12_spaced_53 (by decide) hf (fun hc hf => ?_) (fun hc hf => ?_)
      · exact w_X12_spaced_b83 X hk17 hw (lv_sub hl [0, 1, 2, 3, 4] rfl) hf
      · refine lv_aload_n hx hb dX12_spaced_56 rfl (lv_at hl 0 rfl) ?_
        refine lv_iconst (v := mI 1) hx hb dX12_spaced_57 rfl ?_
        refine lv_iload hx hb dX12_spaced_58 (lv_at hl 5 rfl) ?_
        refine r_cvv (rest := []) [.int (mI 1), .int (mI x5)] X hw (fun ra σa h => c_X12_passes l D cy ad bs F 1 x5 σ ra σa  h) sh_86 rfl (by decide) rfl km_X12_passes kv_X12_passes lm_X12_500 dX12_spaced_60 hl.1 rfl rfl (Nat.le_of_ble_eq_true rfl) ⟨by decide, by decide⟩ ⟨Nat.zero_le _, Nat.zero_le _⟩ hf (fun r307 σ308 _ hf H locs hw => ?_)
        refine lv_aload_n hx hb dX12_spaced_63 rfl (lv_at hl 0 rfl) ?_
        refine r_geti X hw sh_86 fd_12_64 rfl lf_X12_207 dX12_spaced_64 ?_
        refine r_if_ne (tgt := 74) X dX12_spaced_67 (by decide) hf (fun hc hf => ?_) (fun hc hf => ?_)
        · refine lv_iconst (v := mI 0) hx hb dX12_spaced_74 rfl ?_
          exact w_X12_spaced_b75 X hk17 hk45 hw (lv_sub hl [0, 1, 2, 3, 5] rfl) hf
        · refine lv_iconst (v := mI 1) hx hb dX12_spaced_70 rfl ?_
          refine lv_goto (tgt := 75) hx hb dX12_spaced_71 (by decide) ?_
          exact w_X12_spaced_b75 X hk17 hk45 hw (lv_sub hl [0, 1, 2, 3, 5] rfl) hf
def g_X12_spaced_h17 (F : Nat)  : Nat → Int → Int → Int → mMem → mRs
  | 0, _, _, _, _ => none
  | n + 1, x1, x2, x3, σ => if mw 9 < mw x3 then (g_X12_spaced_b96 F x2 σ) else (if ¬ mw x2 = mw (-1) then (g_X12_spaced_b96 F x2 σ) else (mlm (mup σ 86 62 x3) (fun σ103 => mob (g_X12_copies F 1 0 σ103) (fun r104 σ105 => g_X12_spaced_h45 F (g_X12_spaced_h17 F n) F x1 x2 x3 1 0 σ105))))
set_option maxRecDepth 100000 in
set_option maxHeartbeats 4000000 in
theorem w_X12_spaced_h17 {p : Program} {l : Launch} {e : Env} {s : State} {m : MethodId} {args : Array Value} {below : List Frame} {meth : Method} {c : Code} {D : va_G} {cy : Nat → ClassId} {ad : Nat → Nat} {bs : Nat} {F : Nat}  (X : mCx p m c cX12_spaced 6 s args RX12 meth D cy (some .int))  {r : Int} {σ' : mMem}   (n : Nat) : ∀ {x1 x2 x3 : Int} {σ : mMem} {H : Heap} {locs : List Loc} {ls : Array Slot} (_ : mWd D cy ad bs true mN σ s.heap H locs) (_ : lv_has ls 6 [(0, .ref (ad 86)), (1, .int (mI x1)), (2, .int (mI x2)), (3, .int (mI x3))]) (_ : g_X12_spaced_h17 F n x1 x2 x3 σ = some (r, σ')), mGi p l e 8 s m args below meth c D cy ad bs r σ' H locs (F0 m 17 ls []) := by
  obtain ⟨⟨hx, hb, -, -, -⟩, -⟩ := id X
  induction n with
  | zero =>
    intro x1 x2 x3 σ H locs ls hw hl hf
    unfold g_X12_spaced_h17 at hf
    cases hf
  | succ n ih =>
    have hk17 : ∀ (x1 x2 x3 : Int) (σ : mMem) (H : Heap) (locs : List Loc) (ls : Array Slot), mWd D cy ad bs true mN σ s.heap H locs → lv_has ls 6 [(0, .ref (ad 86)), (1, .int (mI x1)), (2, .int (mI x2)), (3, .int (mI x3))] → g_X12_spaced_h17 F n x1 x2 x3 σ = some (r, σ') → mGi p l e 8 s m args below meth c D cy ad bs r σ' H locs (F0 m 17 ls []) := fun x1 x2 x3 σ H locs ls hw hl hf => ih hw hl hf
    intro x1 x2 x3 σ H locs ls hw hl hf
    unfold g_X12_spaced_h17 at hf
    refine lv_iload_n hx hb dX12_spaced_17 rfl (lv_at hl 3 rfl) ?_
    refine lv_bipush (v := mI 9) hx hb dX12_spaced_18 (by decide) ?_
    refine r_icmp_gt (tgt := 96) X dX12_spaced_20 (by decide) hf (fun hc hf => ?_) (fun hc hf => ?_)
    · exact w_X12_spaced_b96 X hw (lv_sub hl [0, 2] rfl) hf
    · refine lv_iload_n hx hb dX12_spaced_23 rfl (lv_at hl 2 rfl) ?_
      refine lv_iconst (v := mI (-1)) hx hb dX12_spaced_24 rfl ?_
      refine r_icmp_ne (tgt := 96) X dX12_spaced_25 (by decide) hf (fun hc hf => ?_) (fun hc hf => ?_)
      · exact w_X12_spaced_b96 X hw (lv_sub hl [0, 2] rfl) hf
      · refine lv_aload_n hx hb dX12_spaced_28 rfl (lv_at hl 0 rfl) ?_
        refine lv_iload_n hx hb dX12_spaced_29 rfl (lv_at hl 3 rfl) ?_
        refine r_puti X hw sh_86 fd_12_62 fp_12_62 rfl rfl lf_X12_201 dX12_spaced_30 (fun H locs hw => ?_)
        refine r_mem hf hw (fun σ103 hw hf => ?_)
        refine lv_aload_n hx hb dX12_spaced_33 rfl (lv_at hl 0 rfl) ?_
        refine lv_iconst (v := mI 1) hx hb dX12_spaced_34 rfl ?_
        refine lv_iconst (v := mI 0) hx hb dX12_spaced_35 rfl ?_
        refine r_cvv (rest := []) [.int (mI 1), .int (mI 0)] X hw (fun ra σa h => c_X12_copies l D cy ad bs F 1 0 σ103 ra σa  h) sh_86 rfl (by decide) rfl km_X12_copies kv_X12_copies lm_X12_421 dX12_spaced_36 hl.1 rfl rfl (Nat.le_of_ble_eq_true rfl) ⟨by decide, by decide⟩ ⟨Nat.zero_le _, Nat.zero_le _⟩ hf (fun r104 σ105 _ hf H locs hw => ?_)
        refine lv_iconst (v := mI 1) hx hb dX12_spaced_39 rfl ?_
        refine lv_istore (lv' := [(4, .int (mI 1)), (0, .ref (ad 86)), (1, .int (mI x1)), (2, .int (mI x2)), (3, .int (mI x3))]) hx hb dX12_spaced_40 hl (by decide) rfl (fun ls hl => ?_)
        refine lv_iconst (v := mI 0) hx hb dX12_spaced_42 rfl ?_
        refine lv_istore (lv' := [(5, .int (mI 0)), (4, .int (mI 1)), (0, .ref (ad 86)), (1, .int (mI x1)), (2, .int (mI x2)), (3, .int (mI x3))]) hx hb dX12_spaced_43 hl (by decide) rfl (fun ls hl => ?_)
        exact w_X12_spaced_h45 X hk17 _ hw (lv_sub hl [2, 3, 4, 5, 1, 0] rfl) hf
def g_X12_spaced (F : Nat) (x1 : Int) (σ : mMem) : mRs := mob (g_X12_isAhead F x1 1 80 σ) (fun r1 σ2 => if ¬ mw r1 = 0 then (g_X12_spaced_h17 F F x1 (-1) 0 σ2) else (some ((-1), σ2)))
set_option maxRecDepth 100000 in
set_option maxHeartbeats 4000000 in
theorem c_X12_spaced (l : Launch) (D : va_G) (cy : Nat → ClassId) (ad : Nat → Nat) (bs : Nat) (F : Nat)  (x1 : Int) (σ : mMem) (r : Int) (σ' : mMem)  (hf : g_X12_spaced F x1 σ = some (r, σ')) : mCi l D cy ad bs yX12_spaced cX12_spaced 6 (some .int) 8 [.ref (ad 86), .int (mI x1)] σ r σ' := by
  refine mCi.of (lv := [(0, .ref (ad 86)), (1, .int (mI x1))]) km_X12_spaced.2.2.2.2.2 (Nat.le_of_ble_eq_true rfl) rfl (fun p e s m args below meth c H locs ls X hw hl => ?_)
  obtain ⟨⟨hx, hb, -, -, -⟩, -⟩ := id X
  unfold g_X12_spaced at hf
  refine lv_aload_n hx hb dX12_spaced_0 rfl (lv_at hl 0 rfl) ?_
  refine lv_iload_n hx hb dX12_spaced_1 rfl (lv_at hl 1 rfl) ?_
  refine lv_iconst (v := mI 1) hx hb dX12_spaced_2 rfl ?_
  refine lv_bipush (v := mI 80) hx hb dX12_spaced_3 (by decide) ?_
  refine r_cvi (rest := []) [.int (mI x1), .int (mI 1), .int (mI 80)] X hw (fun ra σa h => c_X12_isAhead l D cy ad bs F x1 1 80 σ ra σa  h) sh_86 rfl (by decide) rfl km_X12_isAhead kv_X12_isAhead lm_X12_497 dX12_spaced_5 hl.1 rfl rfl (Nat.le_of_ble_eq_true rfl) ⟨by decide, by decide⟩ ⟨Nat.zero_le _, Nat.zero_le _⟩ hf (fun r1 σ2 _ hf H locs hw => ?_)
  refine r_if_ne (tgt := 13) X dX12_spaced_8 (by decide) hf (fun hc hf => ?_) (fun hc hf => ?_)
  · refine lv_iconst (v := mI (-1)) hx hb dX12_spaced_13 rfl ?_
    refine lv_istore_n (lv' := [(2, .int (mI (-1))), (0, .ref (ad 86)), (1, .int (mI x1))]) hx hb dX12_spaced_14 rfl hl (by decide) rfl (fun ls hl => ?_)
    refine lv_iconst (v := mI 0) hx hb dX12_spaced_15 rfl ?_
    refine lv_istore_n (lv' := [(3, .int (mI 0)), (2, .int (mI (-1))), (0, .ref (ad 86)), (1, .int (mI x1))]) hx hb dX12_spaced_16 rfl hl (by decide) rfl (fun ls hl => ?_)
    exact w_X12_spaced_h17 X _ hw (lv_sub hl [2, 3, 1, 0] rfl) hf
  · refine lv_iconst (v := mI (-1)) hx hb dX12_spaced_11 rfl ?_
    exact r_iret X hw dX12_spaced_12 hf
def g_X12_bright_b93 (F : Nat) (k16 : Int → Int → mMem → mRs) (k57 : Int → Int → Int → Int → mMem → mRs) (x1 x2 x4 t0 : Int) (σ : mMem) : mRs := k57 x1 x2 t0 (x4 + 1) σ
set_option maxRecDepth 100000 in
set_option maxHeartbeats 4000000 in
theorem w_X12_bright_b93 {p : Program} {l : Launch} {e : Env} {s : State} {m : MethodId} {args : Array Value} {below : List Frame} {meth : Method} {c : Code} {D : va_G} {cy : Nat → ClassId} {ad : Nat → Nat} {bs : Nat} {F : Nat}  (X : mCx p m c cX12_bright 5 s args RX12 meth D cy (some .int))  {r : Int} {σ' : mMem} {k16 : Int → Int → mMem → mRs} {k57 : Int → Int → Int → Int → mMem → mRs} (hk16 : ∀ (x1 x2 : Int) (σ : mMem) (H : Heap) (locs : List Loc) (ls : Array Slot), mWd D cy ad bs true mN σ s.heap H locs → lv_has ls 5 [(0, .ref (ad 86)), (1, .int (mI x1)), (2, .int (mI x2))] → k16 x1 x2 σ = some (r, σ') → mGi p l e 8 s m args below meth c D cy ad bs r σ' H locs (F0 m 16 ls [])) (hk57 : ∀ (x1 x2 x3 x4 : Int) (σ : mMem) (H : Heap) (locs : List Loc) (ls : Array Slot), mWd D cy ad bs true mN σ s.heap H locs → lv_has ls 5 [(0, .ref (ad 86)), (1, .int (mI x1)), (2, .int (mI x2)), (3, .int (mI x3)), (4, .int (mI x4))] → k57 x1 x2 x3 x4 σ = some (r, σ') → mGi p l e 8 s m args below meth c D cy ad bs r σ' H locs (F0 m 57 ls [])) {x1 x2 x4 t0 : Int} {σ : mMem} {H : Heap} {locs : List Loc} {ls : Array Slot} (hw : mWd D cy ad bs true mN σ s.heap H locs) (hl : lv_has ls 5 [(0, .ref (ad 86)), (1, .int (mI x1)), (2, .int (mI x2)), (4, .int (mI x4))]) (hf : g_X12_bright_b93 F k16 k57 x1 x2 x4 t0 σ = some (r, σ')) : mGi p l e 8 s m args below meth c D cy ad bs r σ' H locs (F0 m 93 ls [.int (mI t0)]) := by
  obtain ⟨⟨hx, hb, -, -, -⟩, -⟩ := id X
  unfold g_X12_bright_b93 at hf
  refine lv_istore_n (lv' := [(3, .int (mI t0)), (0, .ref (ad 86)), (1, .int (mI x1)), (2, .int (mI x2)), (4, .int (mI x4))]) hx hb dX12_bright_93 rfl hl (by decide) rfl (fun ls hl => ?_)
  refine lv_iinc (v := mI (x4 + 1)) (lv' := [(4, .int (mI (x4 + 1))), (3, .int (mI t0)), (0, .ref (ad 86)), (1, .int (mI x1)), (2, .int (mI x2))]) hx hb dX12_bright_94 hl (k := 4) rfl (mI_add _ _) (by decide) rfl (fun ls hl => ?_)
  refine lv_goto (tgt := 57) hx hb dX12_bright_97 (by decide) ?_
  exact hk57 x1 x2 t0 (x4 + 1) σ _ _ _ hw (lv_sub hl [2, 3, 4, 1, 0] rfl) hf
def g_X12_bright_b92 (F : Nat) (k16 : Int → Int → mMem → mRs) (k57 : Int → Int → Int → Int → mMem → mRs) (x1 x2 x4 : Int) (σ : mMem) : mRs := g_X12_bright_b93 F k16 k57 x1 x2 x4 0 σ
set_option maxRecDepth 100000 in
set_option maxHeartbeats 4000000 in
theorem w_X12_bright_b92 {p : Program} {l : Launch} {e : Env} {s : State} {m : MethodId} {args : Array Value} {below : List Frame} {meth : Method} {c : Code} {D : va_G} {cy : Nat → ClassId} {ad : Nat → Nat} {bs : Nat} {F : Nat}  (X : mCx p m c cX12_bright 5 s args RX12 meth D cy (some .int))  {r : Int} {σ' : mMem} {k16 : Int → Int → mMem → mRs} {k57 : Int → Int → Int → Int → mMem → mRs} (hk16 : ∀ (x1 x2 : Int) (σ : mMem) (H : Heap) (locs : List Loc) (ls : Array Slot), mWd D cy ad bs true mN σ s.heap H locs → lv_has ls 5 [(0, .ref (ad 86)), (1, .int (mI x1)), (2, .int (mI x2))] → k16 x1 x2 σ = some (r, σ') → mGi p l e 8 s m args below meth c D cy ad bs r σ' H locs (F0 m 16 ls [])) (hk57 : ∀ (x1 x2 x3 x4 : Int) (σ : mMem) (H : Heap) (locs : List Loc) (ls : Array Slot), mWd D cy ad bs true mN σ s.heap H locs → lv_has ls 5 [(0, .ref (ad 86)), (1, .int (mI x1)), (2, .int (mI x2)), (3, .int (mI x3)), (4, .int (mI x4))] → k57 x1 x2 x3 x4 σ = some (r, σ') → mGi p l e 8 s m args below meth c D cy ad bs r σ' H locs (F0 m 57 ls [])) {x1 x2 x4 : Int} {σ : mMem} {H : Heap} {locs : List Loc} {ls : Array Slot} (hw : mWd D cy ad bs true mN σ s.heap H locs) (hl : lv_has ls 5 [(0, .ref (ad 86)), (1, .int (mI x1)), (2, .int (mI x2)), (4, .int (mI x4))]) (hf : g_X12_bright_b92 F k16 k57 x1 x2 x4 σ = some (r, σ')) : mGi p l e 8 s m args below meth c D cy ad bs r σ' H locs (F0 m 92 ls []) := by
  obtain ⟨⟨hx, hb, -, -, -⟩, -⟩ := id X
  unfold g_X12_bright_b92 at hf
  refine lv_iconst (v := mI 0) hx hb dX12_bright_92 rfl ?_
  exact w_X12_bright_b93 X hk16 hk57 hw (lv_sub hl [0, 1, 2, 3] rfl) hf
def g_X12_bright_h57 (F : Nat) (k16 : Int → Int → mMem → mRs) : Nat → Int → Int → Int → Int → mMem → mRs
  | 0, _, _, _, _, _ => none
  | n + 1, x1, x2, x3, x4, σ => if 0 ≤ mw (σ 86 13) ∧ mw (σ 86 13) < (2 : Int) then if mw (σ 91 (mw (σ 86 13)).toNat) ≤ mw x4 then (if mw x3 = 0 then (k16 x1 (x2 + (-1)) σ) else (some (x2, σ))) else (if mw x3 = 0 then (g_X12_bright_b92 F k16 (g_X12_bright_h57 F k16 n) x1 x2 x4 σ) else (if 0 ≤ mw (6 + x4) ∧ mw (6 + x4) < (132 : Int) then if ¬ mw (σ 115 (mw (6 + x4)).toNat) = 0 then (g_X12_bright_b92 F k16 (g_X12_bright_h57 F k16 n) x1 x2 x4 σ) else (g_X12_bright_b93 F k16 (g_X12_bright_h57 F k16 n) x1 x2 x4 1 σ) else none)) else none
set_option maxRecDepth 100000 in
set_option maxHeartbeats 4000000 in
theorem w_X12_bright_h57 {p : Program} {l : Launch} {e : Env} {s : State} {m : MethodId} {args : Array Value} {below : List Frame} {meth : Method} {c : Code} {D : va_G} {cy : Nat → ClassId} {ad : Nat → Nat} {bs : Nat} {F : Nat}  (X : mCx p m c cX12_bright 5 s args RX12 meth D cy (some .int))  {r : Int} {σ' : mMem} {k16 : Int → Int → mMem → mRs} (hk16 : ∀ (x1 x2 : Int) (σ : mMem) (H : Heap) (locs : List Loc) (ls : Array Slot), mWd D cy ad bs true mN σ s.heap H locs → lv_has ls 5 [(0, .ref (ad 86)), (1, .int (mI x1)), (2, .int (mI x2))] → k16 x1 x2 σ = some (r, σ') → mGi p l e 8 s m args below meth c D cy ad bs r σ' H locs (F0 m 16 ls [])) (n : Nat) : ∀ {x1 x2 x3 x4 : Int} {σ : mMem} {H : Heap} {locs : List Loc} {ls : Array Slot} (_ : mWd D cy ad bs true mN σ s.heap H locs) (_ : lv_has ls 5 [(0, .ref (ad 86)), (1, .int (mI x1)), (2, .int (mI x2)), (3, .int (mI x3)), (4, .int (mI x4))]) (_ : g_X12_bright_h57 F k16 n x1 x2 x3 x4 σ = some (r, σ')), mGi p l e 8 s m args below meth c D cy ad bs r σ' H locs (F0 m 57 ls []) := by
  obtain ⟨⟨hx, hb, -, -, -⟩, -⟩ := id X
  induction n with
  | zero =>
    intro x1 x2 x3 x4 σ H locs ls hw hl hf
    unfold g_X12_bright_h57 at hf
    cases hf
  | succ n ih =>
    have hk57 : ∀ (x1 x2 x3 x4 : Int) (σ : mMem) (H : Heap) (locs : List Loc) (ls : Array Slot), mWd D cy ad bs true mN σ s.heap H locs → lv_has ls 5 [(0, .ref (ad 86)), (1, .int (mI x1)), (2, .int (mI x2)), (3, .int (mI x3)), (4, .int (mI x4))] → g_X12_bright_h57 F k16 n x1 x2 x3 x4 σ = some (r, σ') → mGi p l e 8 s m args below meth c D cy ad bs r σ' H locs (F0 m 57 ls []) := fun x1 x2 x3 x4 σ H locs ls hw hl hf => ih hw hl hf
    intro x1 x2 x3 x4 σ H locs ls hw hl hf
    unfold g_X12_bright_h57 at hf
    refine lv_iload hx hb dX12_bright_57 (lv_at hl 4 rfl) ?_
    refine lv_aload_n hx hb dX12_bright_59 rfl (lv_at hl 0 rfl) ?_
    refine r_getr 91 X hw sh_86 fd_12_17 rfl rfl lf_X12_63 dX12_bright_60 ?_
    refine lv_aload_n hx hb dX12_bright_63 rfl (lv_at hl 0 rfl) ?_
    refine r_geti X hw sh_86 fd_12_13 rfl lf_X12_51 dX12_bright_64 ?_
    refine r_iald (2 : Int) rfl X hw sh_91 dX12_bright_67 hf (fun hf => ?_)
    refine r_icmp_ge (tgt := 100) X dX12_bright_68 (by decide) hf (fun hc hf => ?_) (fun hc hf => ?_)
    · refine lv_iload_n hx hb dX12_bright_100 rfl (lv_at hl 3 rfl) ?_
      refine r_if_eq (tgt := 106) X dX12_bright_101 (by decide) hf (fun hc hf => ?_) (fun hc hf => ?_)
      · refine lv_iinc (v := mI (x2 + (-1))) (lv' := [(2, .int (mI (x2 + (-1)))), (0, .ref (ad 86)), (1, .int (mI x1)), (3, .int (mI x3)), (4, .int (mI x4))]) hx hb dX12_bright_106 hl (k := 2) rfl (mI_add _ _) (by decide) rfl (fun ls hl => ?_)
        refine lv_goto (tgt := 16) hx hb dX12_bright_109 (by decide) ?_
        exact hk16 x1 (x2 + (-1)) σ _ _ _ hw (lv_sub hl [1, 2, 0] rfl) hf
      · refine lv_iload_n hx hb dX12_bright_104 rfl (lv_at hl 2 rfl) ?_
        exact r_iret X hw dX12_bright_105 hf
    · refine lv_iload_n hx hb dX12_bright_71 rfl (lv_at hl 3 rfl) ?_
      refine r_if_eq (tgt := 92) X dX12_bright_72 (by decide) hf (fun hc hf => ?_) (fun hc hf => ?_)
      · exact w_X12_bright_b92 X hk16 hk57 hw (lv_sub hl [0, 1, 2, 4] rfl) hf
      · refine lv_aload_n hx hb dX12_bright_75 rfl (lv_at hl 0 rfl) ?_
        refine r_getr 115 X hw sh_86 fd_12_48 rfl rfl lf_X12_159 dX12_bright_76 ?_
        refine lv_bipush (v := mI 6) hx hb dX12_bright_79 (by decide) ?_
        refine lv_iload hx hb dX12_bright_81 (lv_at hl 4 rfl) ?_
        refine r_iadd X dX12_bright_83 ?_
        refine r_iald (132 : Int) rfl X hw sh_115 dX12_bright_84 hf (fun hf => ?_)
        refine r_if_ne (tgt := 92) X dX12_bright_85 (by decide) hf (fun hc hf => ?_) (fun hc hf => ?_)
        · exact w_X12_bright_b92 X hk16 hk57 hw (lv_sub hl [0, 1, 2, 4] rfl) hf
        · refine lv_iconst (v := mI 1) hx hb dX12_bright_88 rfl ?_
          refine lv_goto (tgt := 93) hx hb dX12_bright_89 (by decide) ?_
          exact w_X12_bright_b93 X hk16 hk57 hw (lv_sub hl [0, 1, 2, 4] rfl) hf
def g_X12_bright_h35 (F : Nat) (k16 : Int → Int → mMem → mRs) : Nat → Int → Int → Int → mMem → mRs
  | 0, _, _, _, _ => none
  | n + 1, x1, x2, x3, σ => if mw x1 ≤ mw x3 then (g_X12_bright_h57 F k16 F x1 x2 1 0 σ) else (mob (g_X12_passes F 1 x3 σ) (fun r206 σ207 => (g_X12_bright_h35 F k16 n) x1 x2 (x3 + 1) σ207))
set_option maxRecDepth 100000 in
set_option maxHeartbeats 4000000 in
theorem w_X12_bright_h35 {p : Program} {l : Launch} {e : Env} {s : State} {m : MethodId} {args : Array Value} {below : List Frame} {meth : Method} {c : Code} {D : va_G} {cy : Nat → ClassId} {ad : Nat → Nat} {bs : Nat} {F : Nat}  (X : mCx p m c cX12_bright 5 s args RX12 meth D cy (some .int))  {r : Int} {σ' : mMem} {k16 : Int → Int → mMem → mRs} (hk16 : ∀ (x1 x2 : Int) (σ : mMem) (H : Heap) (locs : List Loc) (ls : Array Slot), mWd D cy ad bs true mN σ s.heap H locs → lv_has ls 5 [(0, .ref (ad 86)), (1, .int (mI x1)), (2, .int (mI x2))] → k16 x1 x2 σ = some (r, σ') → mGi p l e 8 s m args below meth c D cy ad bs r σ' H locs (F0 m 16 ls [])) (n : Nat) : ∀ {x1 x2 x3 : Int} {σ : mMem} {H : Heap} {locs : List Loc} {ls : Array Slot} (_ : mWd D cy ad bs true mN σ s.heap H locs) (_ : lv_has ls 5 [(0, .ref (ad 86)), (1, .int (mI x1)), (2, .int (mI x2)), (3, .int (mI x3))]) (_ : g_X12_bright_h35 F k16 n x1 x2 x3 σ = some (r, σ')), mGi p l e 8 s m args below meth c D cy ad bs r σ' H locs (F0 m 35 ls []) := by
  obtain ⟨⟨hx, hb, -, -, -⟩, -⟩ := id X
  induction n with
  | zero =>
    intro x1 x2 x3 σ H locs ls hw hl hf
    unfold g_X12_bright_h35 at hf
    cases hf
  | succ n ih =>
    have hk35 : ∀ (x1 x2 x3 : Int) (σ : mMem) (H : Heap) (locs : List Loc) (ls : Array Slot), mWd D cy ad bs true mN σ s.heap H locs → lv_has ls 5 [(0, .ref (ad 86)), (1, .int (mI x1)), (2, .int (mI x2)), (3, .int (mI x3))] → g_X12_bright_h35 F k16 n x1 x2 x3 σ = some (r, σ') → mGi p l e 8 s m args below meth c D cy ad bs r σ' H locs (F0 m 35 ls []) := fun x1 x2 x3 σ H locs ls hw hl hf => ih hw hl hf
    intro x1 x2 x3 σ H locs ls hw hl hf
    unfold g_X12_bright_h35 at hf
    refine lv_iload_n hx hb dX12_bright_35 rfl (lv_at hl 3 rfl) ?_
    refine lv_iload_n hx hb dX12_bright_36 rfl (lv_at hl 1 rfl) ?_
    refine r_icmp_ge (tgt := 52) X dX12_bright_37 (by decide) hf (fun hc hf => ?_) (fun hc hf => ?_)
    · refine lv_iconst (v := mI 1) hx hb dX12_bright_52 rfl ?_
      refine lv_istore_n (lv' := [(3, .int (mI 1)), (0, .ref (ad 86)), (1, .int (mI x1)), (2, .int (mI x2))]) hx hb dX12_bright_53 rfl hl (by decide) rfl (fun ls hl => ?_)
      refine lv_iconst (v := mI 0) hx hb dX12_bright_54 rfl ?_
      refine lv_istore (lv' := [(4, .int (mI 0)), (3, .int (mI 1)), (0, .ref (ad 86)), (1, .int (mI x1)), (2, .int (mI x2))]) hx hb dX12_bright_55 hl (by decide) rfl (fun ls hl => ?_)
      exact w_X12_bright_h57 X hk16 _ hw (lv_sub hl [2, 3, 4, 1, 0] rfl) hf
    · refine lv_aload_n hx hb dX12_bright_40 rfl (lv_at hl 0 rfl) ?_
      refine lv_iconst (v := mI 1) hx hb dX12_bright_41 rfl ?_
      refine lv_iload_n hx hb dX12_bright_42 rfl (lv_at hl 3 rfl) ?_
      refine r_cvv (rest := []) [.int (mI 1), .int (mI x3)] X hw (fun ra σa h => c_X12_passes l D cy ad bs F 1 x3 σ ra σa  h) sh_86 rfl (by decide) rfl km_X12_passes kv_X12_passes lm_X12_500 dX12_bright_43 hl.1 rfl rfl (Nat.le_of_ble_eq_true rfl) ⟨by decide, by decide⟩ ⟨Nat.zero_le _, Nat.zero_le _⟩ hf (fun r206 σ207 _ hf H locs hw => ?_)
      refine lv_iinc (v := mI (x3 + 1)) (lv' := [(3, .int (mI (x3 + 1))), (0, .ref (ad 86)), (1, .int (mI x1)), (2, .int (mI x2))]) hx hb dX12_bright_46 hl (k := 3) rfl (mI_add _ _) (by decide) rfl (fun ls hl => ?_)
      refine lv_goto (tgt := 35) hx hb dX12_bright_49 (by decide) ?_
      exact hk35 x1 x2 (x3 + 1) σ207 _ _ _ hw (lv_sub hl [1, 2, 3, 0] rfl) hf
def g_X12_bright_h16 (F : Nat)  : Nat → Int → Int → mMem → mRs
  | 0, _, _, _ => none
  | n + 1, x1, x2, σ => if mw x2 < 0 then (some ((-1), σ)) else (mob (g_X12_copies F 1 0 σ) (fun r103 σ104 => if 0 ≤ mw 1 ∧ mw 1 < (22 : Int) then mlm (mup σ104 111 (mw 1).toNat x2) (fun σ105 => g_X12_bright_h35 F (g_X12_bright_h16 F n) F x1 x2 0 σ105) else none))
set_option maxRecDepth 100000 in
set_option maxHeartbeats 4000000 in
theorem w_X12_bright_h16 {p : Program} {l : Launch} {e : Env} {s : State} {m : MethodId} {args : Array Value} {below : List Frame} {meth : Method} {c : Code} {D : va_G} {cy : Nat → ClassId} {ad : Nat → Nat} {bs : Nat} {F : Nat}  (X : mCx p m c cX12_bright 5 s args RX12 meth D cy (some .int))  {r : Int} {σ' : mMem}   (n : Nat) : ∀ {x1 x2 : Int} {σ : mMem} {H : Heap} {locs : List Loc} {ls : Array Slot} (_ : mWd D cy ad bs true mN σ s.heap H locs) (_ : lv_has ls 5 [(0, .ref (ad 86)), (1, .int (mI x1)), (2, .int (mI x2))]) (_ : g_X12_bright_h16 F n x1 x2 σ = some (r, σ')), mGi p l e 8 s m args below meth c D cy ad bs r σ' H locs (F0 m 16 ls []) := by
  obtain ⟨⟨hx, hb, -, -, -⟩, -⟩ := id X
  induction n with
  | zero =>
    intro x1 x2 σ H locs ls hw hl hf
    unfold g_X12_bright_h16 at hf
    cases hf
  | succ n ih =>
    have hk16 : ∀ (x1 x2 : Int) (σ : mMem) (H : Heap) (locs : List Loc) (ls : Array Slot), mWd D cy ad bs true mN σ s.heap H locs → lv_has ls 5 [(0, .ref (ad 86)), (1, .int (mI x1)), (2, .int (mI x2))] → g_X12_bright_h16 F n x1 x2 σ = some (r, σ') → mGi p l e 8 s m args below meth c D cy ad bs r σ' H locs (F0 m 16 ls []) := fun x1 x2 σ H locs ls hw hl hf => ih hw hl hf
    intro x1 x2 σ H locs ls hw hl hf
    unfold g_X12_bright_h16 at hf
    refine lv_iload_n hx hb dX12_bright_16 rfl (lv_at hl 2 rfl) ?_
    refine r_if_lt (tgt := 112) X dX12_bright_17 (by decide) hf (fun hc hf => ?_) (fun hc hf => ?_)
    · refine lv_iconst (v := mI (-1)) hx hb dX12_bright_112 rfl ?_
      exact r_iret X hw dX12_bright_113 hf
    · refine lv_aload_n hx hb dX12_bright_20 rfl (lv_at hl 0 rfl) ?_
      refine lv_iconst (v := mI 1) hx hb dX12_bright_21 rfl ?_
      refine lv_iconst (v := mI 0) hx hb dX12_bright_22 rfl ?_
      refine r_cvv (rest := []) [.int (mI 1), .int (mI 0)] X hw (fun ra σa h => c_X12_copies l D cy ad bs F 1 0 σ ra σa  h) sh_86 rfl (by decide) rfl km_X12_copies kv_X12_copies lm_X12_421 dX12_bright_23 hl.1 rfl rfl (Nat.le_of_ble_eq_true rfl) ⟨by decide, by decide⟩ ⟨Nat.zero_le _, Nat.zero_le _⟩ hf (fun r103 σ104 _ hf H locs hw => ?_)
      refine lv_aload_n hx hb dX12_bright_26 rfl (lv_at hl 0 rfl) ?_
      refine r_getr 111 X hw sh_86 fd_12_44 rfl rfl lf_X12_147 dX12_bright_27 ?_
      refine lv_iconst (v := mI 1) hx hb dX12_bright_30 rfl ?_
      refine lv_iload_n hx hb dX12_bright_31 rfl (lv_at hl 2 rfl) ?_
      refine r_iast (22 : Int) rfl X hw sh_111 dX12_bright_32 hf (fun hf H locs hw => ?_)
      refine r_mem hf hw (fun σ105 hw hf => ?_)
      refine lv_iconst (v := mI 0) hx hb dX12_bright_33 rfl ?_
      refine lv_istore_n (lv' := [(3, .int (mI 0)), (0, .ref (ad 86)), (1, .int (mI x1)), (2, .int (mI x2))]) hx hb dX12_bright_34 rfl hl (by decide) rfl (fun ls hl => ?_)
      exact w_X12_bright_h35 X hk16 _ hw (lv_sub hl [1, 2, 3, 0] rfl) hf
def g_X12_bright (F : Nat) (x1 : Int) (σ : mMem) : mRs := mob (g_X12_isAhead F x1 1 60 σ) (fun r1 σ2 => if ¬ mw r1 = 0 then (g_X12_bright_h16 F F x1 9 σ2) else (some ((-1), σ2)))
set_option maxRecDepth 100000 in
set_option maxHeartbeats 4000000 in
theorem c_X12_bright (l : Launch) (D : va_G) (cy : Nat → ClassId) (ad : Nat → Nat) (bs : Nat) (F : Nat)  (x1 : Int) (σ : mMem) (r : Int) (σ' : mMem)  (hf : g_X12_bright F x1 σ = some (r, σ')) : mCi l D cy ad bs yX12_bright cX12_bright 5 (some .int) 8 [.ref (ad 86), .int (mI x1)] σ r σ' := by
  refine mCi.of (lv := [(0, .ref (ad 86)), (1, .int (mI x1))]) km_X12_bright.2.2.2.2.2 (Nat.le_of_ble_eq_true rfl) rfl (fun p e s m args below meth c H locs ls X hw hl => ?_)
  obtain ⟨⟨hx, hb, -, -, -⟩, -⟩ := id X
  unfold g_X12_bright at hf
  refine lv_aload_n hx hb dX12_bright_0 rfl (lv_at hl 0 rfl) ?_
  refine lv_iload_n hx hb dX12_bright_1 rfl (lv_at hl 1 rfl) ?_
  refine lv_iconst (v := mI 1) hx hb dX12_bright_2 rfl ?_
  refine lv_bipush (v := mI 60) hx hb dX12_bright_3 (by decide) ?_
  refine r_cvi (rest := []) [.int (mI x1), .int (mI 1), .int (mI 60)] X hw (fun ra σa h => c_X12_isAhead l D cy ad bs F x1 1 60 σ ra σa  h) sh_86 rfl (by decide) rfl km_X12_isAhead kv_X12_isAhead lm_X12_497 dX12_bright_5 hl.1 rfl rfl (Nat.le_of_ble_eq_true rfl) ⟨by decide, by decide⟩ ⟨Nat.zero_le _, Nat.zero_le _⟩ hf (fun r1 σ2 _ hf H locs hw => ?_)
  refine r_if_ne (tgt := 13) X dX12_bright_8 (by decide) hf (fun hc hf => ?_) (fun hc hf => ?_)
  · refine lv_bipush (v := mI 9) hx hb dX12_bright_13 (by decide) ?_
    refine lv_istore_n (lv' := [(2, .int (mI 9)), (0, .ref (ad 86)), (1, .int (mI x1))]) hx hb dX12_bright_15 rfl hl (by decide) rfl (fun ls hl => ?_)
    exact w_X12_bright_h16 X _ hw (lv_sub hl [1, 2, 0] rfl) hf
  · refine lv_iconst (v := mI (-1)) hx hb dX12_bright_11 rfl ?_
    exact r_iret X hw dX12_bright_12 hf
def g_X12_track_h108 (F : Nat)  : Nat → Int → mMem → mRs
  | 0, _, _ => none
  | n + 1, x3, σ => if mw (σ 86 66) ≤ mw x3 then (some (σ 86 66, σ)) else (if 0 ≤ mw (3 * x3) ∧ mw (3 * x3) < (1800 : Int) then if 0 ≤ mw x3 ∧ mw x3 < (16 : Int) then mlm (mup σ 122 (mw x3).toNat (σ 87 (mw (3 * x3)).toNat)) (fun σ708 => if 0 ≤ mw ((3 * x3) + 2) ∧ mw ((3 * x3) + 2) < (1800 : Int) then if 0 ≤ mw ((3 * x3) + 1) ∧ mw ((3 * x3) + 1) < (1800 : Int) then if 0 ≤ mw x3 ∧ mw x3 < (16 : Int) then mlm (mup σ708 123 (mw x3).toNat ((9 * (σ708 87 (mw ((3 * x3) + 2)).toNat)) + (σ708 87 (mw ((3 * x3) + 1)).toNat))) (fun σ709 => (g_X12_track_h108 F n) (x3 + 1) σ709) else none else none else none) else none else none)
set_option maxRecDepth 100000 in
set_option maxHeartbeats 4000000 in
theorem w_X12_track_h108 {p : Program} {l : Launch} {e : Env} {s : State} {m : MethodId} {args : Array Value} {below : List Frame} {meth : Method} {c : Code} {D : va_G} {cy : Nat → ClassId} {ad : Nat → Nat} {bs : Nat} {F : Nat}  (X : mCx p m c cX12_track 4 s args RX12 meth D cy (some .int))  {r : Int} {σ' : mMem}   (n : Nat) : ∀ {x3 : Int} {σ : mMem} {H : Heap} {locs : List Loc} {ls : Array Slot} (_ : mWd D cy ad bs true mN σ s.heap H locs) (_ : lv_has ls 4 [(0, .ref (ad 86)), (3, .int (mI x3))]) (_ : g_X12_track_h108 F n x3 σ = some (r, σ')), mGi p l e 3 s m args below meth c D cy ad bs r σ' H locs (F0 m 108 ls []) := by
  obtain ⟨⟨hx, hb, -, -, -⟩, -⟩ := id X
  induction n with
  | zero =>
    intro x3 σ H locs ls hw hl hf
    unfold g_X12_track_h108 at hf
    cases hf
  | succ n ih =>
    have hk108 : ∀ (x3 : Int) (σ : mMem) (H : Heap) (locs : List Loc) (ls : Array Slot), mWd D cy ad bs true mN σ s.heap H locs → lv_has ls 4 [(0, .ref (ad 86)), (3, .int (mI x3))] → g_X12_track_h108 F n x3 σ = some (r, σ') → mGi p l e 3 s m args below meth c D cy ad bs r σ' H locs (F0 m 108 ls []) := fun x3 σ H locs ls hw hl hf => ih hw hl hf
    intro x3 σ H locs ls hw hl hf
    unfold g_X12_track_h108 at hf
    refine lv_iload_n hx hb dX12_track_108 rfl (lv_at hl 1 rfl) ?_
    refine lv_aload_n hx hb dX12_track_109 rfl (lv_at hl 0 rfl) ?_
    refine r_geti X hw sh_86 fd_12_66 rfl lf_X12_213 dX12_track_110 ?_
    refine r_icmp_ge (tgt := 166) X dX12_track_113 (by decide) hf (fun hc hf => ?_) (fun hc hf => ?_)
    · refine lv_aload_n hx hb dX12_track_166 rfl (lv_at hl 0 rfl) ?_
      refine r_geti X hw sh_86 fd_12_66 rfl lf_X12_213 dX12_track_167 ?_
      exact r_iret X hw dX12_track_170 hf
    · refine lv_aload_n hx hb dX12_track_116 rfl (lv_at hl 0 rfl) ?_
      refine r_getr 122 X hw sh_86 fd_12_67 rfl rfl lf_X12_216 dX12_track_117 ?_
      refine lv_iload_n hx hb dX12_track_120 rfl (lv_at hl 1 rfl) ?_
      refine lv_aload_n hx hb dX12_track_121 rfl (lv_at hl 0 rfl) ?_
      refine r_getr 87 X hw sh_86 fd_12_0 rfl rfl lf_X12_7 dX12_track_122 ?_
      refine lv_iconst (v := mI 3) hx hb dX12_track_125 rfl ?_
      refine lv_iload_n hx hb dX12_track_126 rfl (lv_at hl 1 rfl) ?_
      refine r_imul X dX12_track_127 ?_
      refine r_iald (1800 : Int) rfl X hw sh_87 dX12_track_128 hf (fun hf => ?_)
      refine r_iast (16 : Int) rfl X hw sh_122 dX12_track_129 hf (fun hf H locs hw => ?_)
      refine r_mem hf hw (fun σ708 hw hf => ?_)
      refine lv_aload_n hx hb dX12_track_130 rfl (lv_at hl 0 rfl) ?_
      refine r_getr 123 X hw sh_86 fd_12_68 rfl rfl lf_X12_219 dX12_track_131 ?_
      refine lv_iload_n hx hb dX12_track_134 rfl (lv_at hl 1 rfl) ?_
      refine lv_bipush (v := mI 9) hx hb dX12_track_135 (by decide) ?_
      refine lv_aload_n hx hb dX12_track_137 rfl (lv_at hl 0 rfl) ?_
      refine r_getr 87 X hw sh_86 fd_12_0 rfl rfl lf_X12_7 dX12_track_138 ?_
      refine lv_iconst (v := mI 3) hx hb dX12_track_141 rfl ?_
      refine lv_iload_n hx hb dX12_track_142 rfl (lv_at hl 1 rfl) ?_
      refine r_imul X dX12_track_143 ?_
      refine lv_iconst (v := mI 2) hx hb dX12_track_144 rfl ?_
      refine r_iadd X dX12_track_145 ?_
      refine r_iald (1800 : Int) rfl X hw sh_87 dX12_track_146 hf (fun hf => ?_)
      refine r_imul X dX12_track_147 ?_
      refine lv_aload_n hx hb dX12_track_148 rfl (lv_at hl 0 rfl) ?_
      refine r_getr 87 X hw sh_86 fd_12_0 rfl rfl lf_X12_7 dX12_track_149 ?_
      refine lv_iconst (v := mI 3) hx hb dX12_track_152 rfl ?_
      refine lv_iload_n hx hb dX12_track_153 rfl (lv_at hl 1 rfl) ?_
      refine r_imul X dX12_track_154 ?_
      refine lv_iconst (v := mI 1) hx hb dX12_track_155 rfl ?_
      refine r_iadd X dX12_track_156 ?_
      refine r_iald (1800 : Int) rfl X hw sh_87 dX12_track_157 hf (fun hf => ?_)
      refine r_iadd X dX12_track_158 ?_
      refine r_iast (16 : Int) rfl X hw sh_123 dX12_track_159 hf (fun hf H locs hw => ?_)
      refine r_mem hf hw (fun σ709 hw hf => ?_)
      refine lv_iinc (v := mI (x3 + 1)) (lv' := [(3, .int (mI (x3 + 1))), (0, .ref (ad 86))]) hx hb dX12_track_160 hl (k := 1) rfl (mI_add _ _) (by decide) rfl (fun ls hl => ?_)
      refine lv_goto (tgt := 108) hx hb dX12_track_163 (by decide) ?_
      exact hk108 (x3 + 1) σ709 _ _ _ hw (lv_sub hl [1, 0] rfl) hf
def g_X12_track_b89 (F : Nat)  (x1 x2 : Int) (σ : mMem) : mRs := if ¬ mw x2 = 0 then (if mw 3 = 0 then none else (mlm (mup σ 86 66 ((mw x1).tdiv (mw 3))) (fun σ405 => g_X12_track_h108 F F 0 σ405))) else (mob (g_X12_refuses F 5 σ) (fun r406 σ407 => some (r406, σ407)))
set_option maxRecDepth 100000 in
set_option maxHeartbeats 4000000 in
theorem w_X12_track_b89 {p : Program} {l : Launch} {e : Env} {s : State} {m : MethodId} {args : Array Value} {below : List Frame} {meth : Method} {c : Code} {D : va_G} {cy : Nat → ClassId} {ad : Nat → Nat} {bs : Nat} {F : Nat}  (X : mCx p m c cX12_track 4 s args RX12 meth D cy (some .int))  {r : Int} {σ' : mMem}   {x1 x2 : Int} {σ : mMem} {H : Heap} {locs : List Loc} {ls : Array Slot} (hw : mWd D cy ad bs true mN σ s.heap H locs) (hl : lv_has ls 4 [(0, .ref (ad 86)), (1, .int (mI x1)), (2, .int (mI x2))]) (hf : g_X12_track_b89 F x1 x2 σ = some (r, σ')) : mGi p l e 3 s m args below meth c D cy ad bs r σ' H locs (F0 m 89 ls []) := by
  obtain ⟨⟨hx, hb, -, -, -⟩, -⟩ := id X
  unfold g_X12_track_b89 at hf
  refine lv_iload_n hx hb dX12_track_89 rfl (lv_at hl 2 rfl) ?_
  refine r_if_ne (tgt := 99) X dX12_track_90 (by decide) hf (fun hc hf => ?_) (fun hc hf => ?_)
  · refine lv_aload_n hx hb dX12_track_99 rfl (lv_at hl 0 rfl) ?_
    refine lv_iload_n hx hb dX12_track_100 rfl (lv_at hl 1 rfl) ?_
    refine lv_iconst (v := mI 3) hx hb dX12_track_101 rfl ?_
    refine r_idiv X dX12_track_102 hf (fun hf => ?_)
    refine r_puti X hw sh_86 fd_12_66 fp_12_66 rfl rfl lf_X12_213 dX12_track_103 (fun H locs hw => ?_)
    refine r_mem hf hw (fun σ405 hw hf => ?_)
    refine lv_iconst (v := mI 0) hx hb dX12_track_106 rfl ?_
    refine lv_istore_n (lv' := [(3, .int (mI 0)), (0, .ref (ad 86)), (1, .int (mI x1)), (2, .int (mI x2))]) hx hb dX12_track_107 rfl hl (by decide) rfl (fun ls hl => ?_)
    exact w_X12_track_h108 X _ hw (lv_sub hl [1, 0] rfl) hf
  · refine lv_aload_n hx hb dX12_track_93 rfl (lv_at hl 0 rfl) ?_
    refine lv_iconst (v := mI 5) hx hb dX12_track_94 rfl ?_
    refine r_cvi (rest := []) [.int (mI 5)] X hw (fun ra σa h => c_X12_refuses l D cy ad bs F 5 σ ra σa  h) sh_86 rfl (by decide) rfl km_X12_refuses kv_X12_refuses lm_X12_235 dX12_track_95 hl.1 rfl rfl (Nat.le_of_ble_eq_true rfl) ⟨by decide, by decide⟩ ⟨Nat.zero_le _, Nat.zero_le _⟩ hf (fun r406 σ407 _ hf H locs hw => ?_)
    exact r_iret X hw dX12_track_98 hf
def g_X12_track_b82 (F : Nat) (k34 : Int → Int → Int → mMem → mRs) (x1 x3 t0 : Int) (σ : mMem) : mRs := k34 x1 t0 (x3 + 3) σ
set_option maxRecDepth 100000 in
set_option maxHeartbeats 4000000 in
theorem w_X12_track_b82 {p : Program} {l : Launch} {e : Env} {s : State} {m : MethodId} {args : Array Value} {below : List Frame} {meth : Method} {c : Code} {D : va_G} {cy : Nat → ClassId} {ad : Nat → Nat} {bs : Nat} {F : Nat}  (X : mCx p m c cX12_track 4 s args RX12 meth D cy (some .int))  {r : Int} {σ' : mMem} {k34 : Int → Int → Int → mMem → mRs} (hk34 : ∀ (x1 x2 x3 : Int) (σ : mMem) (H : Heap) (locs : List Loc) (ls : Array Slot), mWd D cy ad bs true mN σ s.heap H locs → lv_has ls 4 [(0, .ref (ad 86)), (1, .int (mI x1)), (2, .int (mI x2)), (3, .int (mI x3))] → k34 x1 x2 x3 σ = some (r, σ') → mGi p l e 3 s m args below meth c D cy ad bs r σ' H locs (F0 m 34 ls [])) {x1 x3 t0 : Int} {σ : mMem} {H : Heap} {locs : List Loc} {ls : Array Slot} (hw : mWd D cy ad bs true mN σ s.heap H locs) (hl : lv_has ls 4 [(0, .ref (ad 86)), (1, .int (mI x1)), (3, .int (mI x3))]) (hf : g_X12_track_b82 F k34 x1 x3 t0 σ = some (r, σ')) : mGi p l e 3 s m args below meth c D cy ad bs r σ' H locs (F0 m 82 ls [.int (mI t0)]) := by
  obtain ⟨⟨hx, hb, -, -, -⟩, -⟩ := id X
  unfold g_X12_track_b82 at hf
  refine lv_istore_n (lv' := [(2, .int (mI t0)), (0, .ref (ad 86)), (1, .int (mI x1)), (3, .int (mI x3))]) hx hb dX12_track_82 rfl hl (by decide) rfl (fun ls hl => ?_)
  refine lv_iinc (v := mI (x3 + 3)) (lv' := [(3, .int (mI (x3 + 3))), (2, .int (mI t0)), (0, .ref (ad 86)), (1, .int (mI x1))]) hx hb dX12_track_83 hl (k := 3) rfl (mI_add _ _) (by decide) rfl (fun ls hl => ?_)
  refine lv_goto (tgt := 34) hx hb dX12_track_86 (by decide) ?_
  exact hk34 x1 t0 (x3 + 3) σ _ _ _ hw (lv_sub hl [2, 3, 1, 0] rfl) hf
def g_X12_track_b81 (F : Nat) (k34 : Int → Int → Int → mMem → mRs) (x1 x3 : Int) (σ : mMem) : mRs := g_X12_track_b82 F k34 x1 x3 0 σ
set_option maxRecDepth 100000 in
set_option maxHeartbeats 4000000 in
theorem w_X12_track_b81 {p : Program} {l : Launch} {e : Env} {s : State} {m : MethodId} {args : Array Value} {below : List Frame} {meth : Method} {c : Code} {D : va_G} {cy : Nat → ClassId} {ad : Nat → Nat} {bs : Nat} {F : Nat}  (X : mCx p m c cX12_track 4 s args RX12 meth D cy (some .int))  {r : Int} {σ' : mMem} {k34 : Int → Int → Int → mMem → mRs} (hk34 : ∀ (x1 x2 x3 : Int) (σ : mMem) (H : Heap) (locs : List Loc) (ls : Array Slot), mWd D cy ad bs true mN σ s.heap H locs → lv_has ls 4 [(0, .ref (ad 86)), (1, .int (mI x1)), (2, .int (mI x2)), (3, .int (mI x3))] → k34 x1 x2 x3 σ = some (r, σ') → mGi p l e 3 s m args below meth c D cy ad bs r σ' H locs (F0 m 34 ls [])) {x1 x3 : Int} {σ : mMem} {H : Heap} {locs : List Loc} {ls : Array Slot} (hw : mWd D cy ad bs true mN σ s.heap H locs) (hl : lv_has ls 4 [(0, .ref (ad 86)), (1, .int (mI x1)), (3, .int (mI x3))]) (hf : g_X12_track_b81 F k34 x1 x3 σ = some (r, σ')) : mGi p l e 3 s m args below meth c D cy ad bs r σ' H locs (F0 m 81 ls []) := by
  obtain ⟨⟨hx, hb, -, -, -⟩, -⟩ := id X
  unfold g_X12_track_b81 at hf
  refine lv_iconst (v := mI 0) hx hb dX12_track_81 rfl ?_
  exact w_X12_track_b82 X hk34 hw (lv_sub hl [0, 1, 2] rfl) hf
def g_X12_track_h34 (F : Nat)  : Nat → Int → Int → Int → mMem → mRs
  | 0, _, _, _, _ => none
  | n + 1, x1, x2, x3, σ => if mw x1 ≤ mw x3 then (g_X12_track_b89 F x1 x2 σ) else (if mw x2 = 0 then (g_X12_track_b89 F x1 x2 σ) else (if 0 ≤ mw x3 ∧ mw x3 < (1800 : Int) then if mw 40 < mw (σ 87 (mw x3).toNat) then (g_X12_track_b81 F (g_X12_track_h34 F n) x1 x3 σ) else (if 0 ≤ mw (x3 + 1) ∧ mw (x3 + 1) < (1800 : Int) then if 0 ≤ mw (x3 + 2) ∧ mw (x3 + 2) < (1800 : Int) then mob (g_X12_isOn F (σ 87 (mw (x3 + 1)).toNat) (σ 87 (mw (x3 + 2)).toNat) σ) (fun r303 σ304 => if mw r303 = 0 then (g_X12_track_b81 F (g_X12_track_h34 F n) x1 x3 σ304) else (g_X12_track_b82 F (g_X12_track_h34 F n) x1 x3 1 σ304)) else none else none) else none))
set_option maxRecDepth 100000 in
set_option maxHeartbeats 4000000 in
theorem w_X12_track_h34 {p : Program} {l : Launch} {e : Env} {s : State} {m : MethodId} {args : Array Value} {below : List Frame} {meth : Method} {c : Code} {D : va_G} {cy : Nat → ClassId} {ad : Nat → Nat} {bs : Nat} {F : Nat}  (X : mCx p m c cX12_track 4 s args RX12 meth D cy (some .int))  {r : Int} {σ' : mMem}   (n : Nat) : ∀ {x1 x2 x3 : Int} {σ : mMem} {H : Heap} {locs : List Loc} {ls : Array Slot} (_ : mWd D cy ad bs true mN σ s.heap H locs) (_ : lv_has ls 4 [(0, .ref (ad 86)), (1, .int (mI x1)), (2, .int (mI x2)), (3, .int (mI x3))]) (_ : g_X12_track_h34 F n x1 x2 x3 σ = some (r, σ')), mGi p l e 3 s m args below meth c D cy ad bs r σ' H locs (F0 m 34 ls []) := by
  obtain ⟨⟨hx, hb, -, -, -⟩, -⟩ := id X
  induction n with
  | zero =>
    intro x1 x2 x3 σ H locs ls hw hl hf
    unfold g_X12_track_h34 at hf
    cases hf
  | succ n ih =>
    have hk34 : ∀ (x1 x2 x3 : Int) (σ : mMem) (H : Heap) (locs : List Loc) (ls : Array Slot), mWd D cy ad bs true mN σ s.heap H locs → lv_has ls 4 [(0, .ref (ad 86)), (1, .int (mI x1)), (2, .int (mI x2)), (3, .int (mI x3))] → g_X12_track_h34 F n x1 x2 x3 σ = some (r, σ') → mGi p l e 3 s m args below meth c D cy ad bs r σ' H locs (F0 m 34 ls []) := fun x1 x2 x3 σ H locs ls hw hl hf => ih hw hl hf
    intro x1 x2 x3 σ H locs ls hw hl hf
    unfold g_X12_track_h34 at hf
    refine lv_iload_n hx hb dX12_track_34 rfl (lv_at hl 3 rfl) ?_
    refine lv_iload_n hx hb dX12_track_35 rfl (lv_at hl 1 rfl) ?_
    refine r_icmp_ge (tgt := 89) X dX12_track_36 (by decide) hf (fun hc hf => ?_) (fun hc hf => ?_)
    · exact w_X12_track_b89 X hw (lv_sub hl [0, 1, 2] rfl) hf
    · refine lv_iload_n hx hb dX12_track_39 rfl (lv_at hl 2 rfl) ?_
      refine r_if_eq (tgt := 89) X dX12_track_40 (by decide) hf (fun hc hf => ?_) (fun hc hf => ?_)
      · exact w_X12_track_b89 X hw (lv_sub hl [0, 1, 2] rfl) hf
      · refine lv_aload_n hx hb dX12_track_43 rfl (lv_at hl 0 rfl) ?_
        refine r_getr 87 X hw sh_86 fd_12_0 rfl rfl lf_X12_7 dX12_track_44 ?_
        refine lv_iload_n hx hb dX12_track_47 rfl (lv_at hl 3 rfl) ?_
        refine r_iald (1800 : Int) rfl X hw sh_87 dX12_track_48 hf (fun hf => ?_)
        refine lv_bipush (v := mI 40) hx hb dX12_track_49 (by decide) ?_
        refine r_icmp_gt (tgt := 81) X dX12_track_51 (by decide) hf (fun hc hf => ?_) (fun hc hf => ?_)
        · exact w_X12_track_b81 X hk34 hw (lv_sub hl [0, 1, 3] rfl) hf
        · refine lv_aload_n hx hb dX12_track_54 rfl (lv_at hl 0 rfl) ?_
          refine lv_aload_n hx hb dX12_track_55 rfl (lv_at hl 0 rfl) ?_
          refine r_getr 87 X hw sh_86 fd_12_0 rfl rfl lf_X12_7 dX12_track_56 ?_
          refine lv_iload_n hx hb dX12_track_59 rfl (lv_at hl 3 rfl) ?_
          refine lv_iconst (v := mI 1) hx hb dX12_track_60 rfl ?_
          refine r_iadd X dX12_track_61 ?_
          refine r_iald (1800 : Int) rfl X hw sh_87 dX12_track_62 hf (fun hf => ?_)
          refine lv_aload_n hx hb dX12_track_63 rfl (lv_at hl 0 rfl) ?_
          refine r_getr 87 X hw sh_86 fd_12_0 rfl rfl lf_X12_7 dX12_track_64 ?_
          refine lv_iload_n hx hb dX12_track_67 rfl (lv_at hl 3 rfl) ?_
          refine lv_iconst (v := mI 2) hx hb dX12_track_68 rfl ?_
          refine r_iadd X dX12_track_69 ?_
          refine r_iald (1800 : Int) rfl X hw sh_87 dX12_track_70 hf (fun hf => ?_)
          refine r_cvi (rest := []) [.int (mI (σ 87 (mw (x3 + 1)).toNat)), .int (mI (σ 87 (mw (x3 + 2)).toNat))] X hw (fun ra σa h => c_X12_isOn l D cy ad bs F (σ 87 (mw (x3 + 1)).toNat) (σ 87 (mw (x3 + 2)).toNat) σ ra σa  h) sh_86 rfl (by decide) rfl km_X12_isOn kv_X12_isOn lm_X12_446 dX12_track_71 hl.1 rfl rfl (Nat.le_of_ble_eq_true rfl) ⟨by decide, by decide⟩ ⟨Nat.zero_le _, Nat.zero_le _⟩ hf (fun r303 σ304 _ hf H locs hw => ?_)
          refine r_if_eq (tgt := 81) X dX12_track_74 (by decide) hf (fun hc hf => ?_) (fun hc hf => ?_)
          · exact w_X12_track_b81 X hk34 hw (lv_sub hl [0, 1, 3] rfl) hf
          · refine lv_iconst (v := mI 1) hx hb dX12_track_77 rfl ?_
            refine lv_goto (tgt := 82) hx hb dX12_track_78 (by decide) ?_
            exact w_X12_track_b82 X hk34 hw (lv_sub hl [0, 1, 3] rfl) hf
def g_X12_track_b31 (F : Nat)  (x1 t0 : Int) (σ : mMem) : mRs := g_X12_track_h34 F F x1 t0 0 σ
set_option maxRecDepth 100000 in
set_option maxHeartbeats 4000000 in
theorem w_X12_track_b31 {p : Program} {l : Launch} {e : Env} {s : State} {m : MethodId} {args : Array Value} {below : List Frame} {meth : Method} {c : Code} {D : va_G} {cy : Nat → ClassId} {ad : Nat → Nat} {bs : Nat} {F : Nat}  (X : mCx p m c cX12_track 4 s args RX12 meth D cy (some .int))  {r : Int} {σ' : mMem}   {x1 t0 : Int} {σ : mMem} {H : Heap} {locs : List Loc} {ls : Array Slot} (hw : mWd D cy ad bs true mN σ s.heap H locs) (hl : lv_has ls 4 [(0, .ref (ad 86)), (1, .int (mI x1))]) (hf : g_X12_track_b31 F x1 t0 σ = some (r, σ')) : mGi p l e 3 s m args below meth c D cy ad bs r σ' H locs (F0 m 31 ls [.int (mI t0)]) := by
  obtain ⟨⟨hx, hb, -, -, -⟩, -⟩ := id X
  unfold g_X12_track_b31 at hf
  refine lv_istore_n (lv' := [(2, .int (mI t0)), (0, .ref (ad 86)), (1, .int (mI x1))]) hx hb dX12_track_31 rfl hl (by decide) rfl (fun ls hl => ?_)
  refine lv_iconst (v := mI 0) hx hb dX12_track_32 rfl ?_
  refine lv_istore_n (lv' := [(3, .int (mI 0)), (2, .int (mI t0)), (0, .ref (ad 86)), (1, .int (mI x1))]) hx hb dX12_track_33 rfl hl (by decide) rfl (fun ls hl => ?_)
  exact w_X12_track_h34 X _ hw (lv_sub hl [2, 3, 1, 0] rfl) hf
def g_X12_track_b30 (F : Nat)  (x1 : Int) (σ : mMem) : mRs := g_X12_track_b31 F x1 0 σ
set_option maxRecDepth 100000 in
set_option maxHeartbeats 4000000 in
theorem w_X12_track_b30 {p : Program} {l : Launch} {e : Env} {s : State} {m : MethodId} {args : Array Value} {below : List Frame} {meth : Method} {c : Code} {D : va_G} {cy : Nat → ClassId} {ad : Nat → Nat} {bs : Nat} {F : Nat}  (X : mCx p m c cX12_track 4 s args RX12 meth D cy (some .int))  {r : Int} {σ' : mMem}   {x1 : Int} {σ : mMem} {H : Heap} {locs : List Loc} {ls : Array Slot} (hw : mWd D cy ad bs true mN σ s.heap H locs) (hl : lv_has ls 4 [(0, .ref (ad 86)), (1, .int (mI x1))]) (hf : g_X12_track_b30 F x1 σ = some (r, σ')) : mGi p l e 3 s m args below meth c D cy ad bs r σ' H locs (F0 m 30 ls []) := by
  obtain ⟨⟨hx, hb, -, -, -⟩, -⟩ := id X
  unfold g_X12_track_b30 at hf
  refine lv_iconst (v := mI 0) hx hb dX12_track_30 rfl ?_
  exact w_X12_track_b31 X hw (lv_sub hl [0, 1] rfl) hf
def g_X12_track (F : Nat) (σ : mMem) : mRs := mlet (σ 86 1) (fun y1 => mlm (mup σ 86 1 0) (fun σ2 => if mw y1 ≤ 0 then (g_X12_track_b30 F y1 σ2) else (if mw 3 = 0 then none else (if ¬ mw ((mw y1).tmod (mw 3)) = 0 then (g_X12_track_b30 F y1 σ2) else (if mw 48 < mw y1 then (g_X12_track_b30 F y1 σ2) else (g_X12_track_b31 F y1 1 σ2))))))
set_option maxRecDepth 100000 in
set_option maxHeartbeats 4000000 in
theorem c_X12_track (l : Launch) (D : va_G) (cy : Nat → ClassId) (ad : Nat → Nat) (bs : Nat) (F : Nat)   (σ : mMem) (r : Int) (σ' : mMem)  (hf : g_X12_track F  σ = some (r, σ')) : mCi l D cy ad bs yX12_track cX12_track 4 (some .int) 3 [.ref (ad 86)] σ r σ' := by
  refine mCi.of (lv := [(0, .ref (ad 86))]) km_X12_track.2.2.2.2.2 (Nat.le_of_ble_eq_true rfl) rfl (fun p e s m args below meth c H locs ls X hw hl => ?_)
  obtain ⟨⟨hx, hb, -, -, -⟩, -⟩ := id X
  unfold g_X12_track at hf
  refine lv_aload_n hx hb dX12_track_0 rfl (lv_at hl 0 rfl) ?_
  refine r_geti X hw sh_86 fd_12_1 rfl lf_X12_13 dX12_track_1 ?_
  refine r_leti hf (fun y1 hf => ?_)
  refine lv_istore_n (lv' := [(1, .int (mI y1)), (0, .ref (ad 86))]) hx hb dX12_track_4 rfl hl (by decide) rfl (fun ls hl => ?_)
  refine lv_aload_n hx hb dX12_track_5 rfl (lv_at hl 1 rfl) ?_
  refine lv_iconst (v := mI 0) hx hb dX12_track_6 rfl ?_
  refine r_puti X hw sh_86 fd_12_1 fp_12_1 rfl rfl lf_X12_13 dX12_track_7 (fun H locs hw => ?_)
  refine r_mem hf hw (fun σ2 hw hf => ?_)
  refine lv_iload_n hx hb dX12_track_10 rfl (lv_at hl 0 rfl) ?_
  refine r_if_le (tgt := 30) X dX12_track_11 (by decide) hf (fun hc hf => ?_) (fun hc hf => ?_)
  · exact w_X12_track_b30 X hw (lv_sub hl [1, 0] rfl) hf
  · refine lv_iload_n hx hb dX12_track_14 rfl (lv_at hl 0 rfl) ?_
    refine lv_iconst (v := mI 3) hx hb dX12_track_15 rfl ?_
    refine r_irem X dX12_track_16 hf (fun hf => ?_)
    refine r_if_ne (tgt := 30) X dX12_track_17 (by decide) hf (fun hc hf => ?_) (fun hc hf => ?_)
    · exact w_X12_track_b30 X hw (lv_sub hl [1, 0] rfl) hf
    · refine lv_iload_n hx hb dX12_track_20 rfl (lv_at hl 0 rfl) ?_
      refine lv_bipush (v := mI 48) hx hb dX12_track_21 (by decide) ?_
      refine r_icmp_gt (tgt := 30) X dX12_track_23 (by decide) hf (fun hc hf => ?_) (fun hc hf => ?_)
      · exact w_X12_track_b30 X hw (lv_sub hl [1, 0] rfl) hf
      · refine lv_iconst (v := mI 1) hx hb dX12_track_26 rfl ?_
        refine lv_goto (tgt := 31) hx hb dX12_track_27 (by decide) ?_
        exact w_X12_track_b31 X hw (lv_sub hl [1, 0] rfl) hf
def g_X12_walks_b78 (F : Nat) (k18 : Int → Int → Int → mMem → mRs) (x1 x2 x3 : Int) (σ : mMem) : mRs := k18 x1 x2 (x3 + 1) σ
set_option maxRecDepth 100000 in
set_option maxHeartbeats 4000000 in
theorem w_X12_walks_b78 {p : Program} {l : Launch} {e : Env} {s : State} {m : MethodId} {args : Array Value} {below : List Frame} {meth : Method} {c : Code} {D : va_G} {cy : Nat → ClassId} {ad : Nat → Nat} {bs : Nat} {F : Nat}  (X : mCx p m c cX12_walks 4 s args RX12 meth D cy none)  {r : Int} {σ' : mMem} {k18 : Int → Int → Int → mMem → mRs} (hk18 : ∀ (x1 x2 x3 : Int) (σ : mMem) (H : Heap) (locs : List Loc) (ls : Array Slot), mWd D cy ad bs true mN σ s.heap H locs → lv_has ls 4 [(0, .ref (ad 86)), (1, .int (mI x1)), (2, .int (mI x2)), (3, .int (mI x3))] → k18 x1 x2 x3 σ = some (r, σ') → mGv p l e 8 s m args below meth c D cy ad bs σ' H locs (F0 m 18 ls [])) {x1 x2 x3 : Int} {σ : mMem} {H : Heap} {locs : List Loc} {ls : Array Slot} (hw : mWd D cy ad bs true mN σ s.heap H locs) (hl : lv_has ls 4 [(0, .ref (ad 86)), (1, .int (mI x1)), (2, .int (mI x2)), (3, .int (mI x3))]) (hf : g_X12_walks_b78 F k18 x1 x2 x3 σ = some (r, σ')) : mGv p l e 8 s m args below meth c D cy ad bs σ' H locs (F0 m 78 ls []) := by
  obtain ⟨⟨hx, hb, -, -, -⟩, -⟩ := id X
  unfold g_X12_walks_b78 at hf
  refine lv_iinc (v := mI (x3 + 1)) (lv' := [(3, .int (mI (x3 + 1))), (0, .ref (ad 86)), (1, .int (mI x1)), (2, .int (mI x2))]) hx hb dX12_walks_78 hl (k := 3) rfl (mI_add _ _) (by decide) rfl (fun ls hl => ?_)
  refine lv_goto (tgt := 18) hx hb dX12_walks_81 (by decide) ?_
  exact hk18 x1 x2 (x3 + 1) σ _ _ _ hw (lv_sub hl [1, 2, 3, 0] rfl) hf
def g_X12_walks_b58 (F : Nat) (k18 : Int → Int → Int → mMem → mRs) (x1 x2 x3 t0 t1 : Int) (σ : mMem) : mRs := if 0 ≤ mw t0 ∧ mw t0 < (410 : Int) then mlm (mup σ 124 (mw t0).toNat t1) (fun σ208 => mob (g_X12_isAhead F (x3 + 1) 0 40 σ208) (fun r209 σ210 => if mw r209 = 0 then (g_X12_walks_b78 F k18 x1 x2 x3 σ210) else (mob (g_X12_passes F 1 x3 σ210) (fun r211 σ212 => g_X12_walks_b78 F k18 x1 x2 x3 σ212)))) else none
set_option maxRecDepth 100000 in
set_option maxHeartbeats 4000000 in
theorem w_X12_walks_b58 {p : Program} {l : Launch} {e : Env} {s : State} {m : MethodId} {args : Array Value} {below : List Frame} {meth : Method} {c : Code} {D : va_G} {cy : Nat → ClassId} {ad : Nat → Nat} {bs : Nat} {F : Nat}  (X : mCx p m c cX12_walks 4 s args RX12 meth D cy none)  {r : Int} {σ' : mMem} {k18 : Int → Int → Int → mMem → mRs} (hk18 : ∀ (x1 x2 x3 : Int) (σ : mMem) (H : Heap) (locs : List Loc) (ls : Array Slot), mWd D cy ad bs true mN σ s.heap H locs → lv_has ls 4 [(0, .ref (ad 86)), (1, .int (mI x1)), (2, .int (mI x2)), (3, .int (mI x3))] → k18 x1 x2 x3 σ = some (r, σ') → mGv p l e 8 s m args below meth c D cy ad bs σ' H locs (F0 m 18 ls [])) {x1 x2 x3 t0 t1 : Int} {σ : mMem} {H : Heap} {locs : List Loc} {ls : Array Slot} (hw : mWd D cy ad bs true mN σ s.heap H locs) (hl : lv_has ls 4 [(0, .ref (ad 86)), (1, .int (mI x1)), (2, .int (mI x2)), (3, .int (mI x3))]) (hf : g_X12_walks_b58 F k18 x1 x2 x3 t0 t1 σ = some (r, σ')) : mGv p l e 8 s m args below meth c D cy ad bs σ' H locs (F0 m 58 ls [.int (mI t1), .int (mI t0), .ref (ad 124)]) := by
  obtain ⟨⟨hx, hb, -, -, -⟩, -⟩ := id X
  unfold g_X12_walks_b58 at hf
  refine r_iast (410 : Int) rfl X hw sh_124 dX12_walks_58 hf (fun hf H locs hw => ?_)
  refine r_mem hf hw (fun σ208 hw hf => ?_)
  refine lv_aload_n hx hb dX12_walks_59 rfl (lv_at hl 0 rfl) ?_
  refine lv_iload_n hx hb dX12_walks_60 rfl (lv_at hl 3 rfl) ?_
  refine lv_iconst (v := mI 1) hx hb dX12_walks_61 rfl ?_
  refine r_iadd X dX12_walks_62 ?_
  refine lv_iconst (v := mI 0) hx hb dX12_walks_63 rfl ?_
  refine lv_bipush (v := mI 40) hx hb dX12_walks_64 (by decide) ?_
  refine r_cvi (rest := []) [.int (mI (x3 + 1)), .int (mI 0), .int (mI 40)] X hw (fun ra σa h => c_X12_isAhead l D cy ad bs F (x3 + 1) 0 40 σ208 ra σa  h) sh_86 rfl (by decide) rfl km_X12_isAhead kv_X12_isAhead lm_X12_497 dX12_walks_66 hl.1 rfl rfl (Nat.le_of_ble_eq_true rfl) ⟨by decide, by decide⟩ ⟨Nat.zero_le _, Nat.zero_le _⟩ hf (fun r209 σ210 _ hf H locs hw => ?_)
  refine r_if_eq (tgt := 78) X dX12_walks_69 (by decide) hf (fun hc hf => ?_) (fun hc hf => ?_)
  · exact w_X12_walks_b78 X hk18 hw (lv_sub hl [0, 1, 2, 3] rfl) hf
  · refine lv_aload_n hx hb dX12_walks_72 rfl (lv_at hl 0 rfl) ?_
    refine lv_iconst (v := mI 1) hx hb dX12_walks_73 rfl ?_
    refine lv_iload_n hx hb dX12_walks_74 rfl (lv_at hl 3 rfl) ?_
    refine r_cvv (rest := []) [.int (mI 1), .int (mI x3)] X hw (fun ra σa h => c_X12_passes l D cy ad bs F 1 x3 σ210 ra σa  h) sh_86 rfl (by decide) rfl km_X12_passes kv_X12_passes lm_X12_500 dX12_walks_75 hl.1 rfl rfl (Nat.le_of_ble_eq_true rfl) ⟨by decide, by decide⟩ ⟨Nat.zero_le _, Nat.zero_le _⟩ hf (fun r211 σ212 _ hf H locs hw => ?_)
    exact w_X12_walks_b78 X hk18 hw (lv_sub hl [0, 1, 2, 3] rfl) hf
def g_X12_walks_h18 (F : Nat)  : Nat → Int → Int → Int → mMem → mRs
  | 0, _, _, _, _ => none
  | n + 1, x1, x2, x3, σ => if mw 40 < mw x3 then (mlm (mup σ 86 60 (-1)) (fun σ105 => some (0, σ105))) else (mob (g_X12_isAhead F x3 0 40 σ) (fun r106 σ107 => if mw r106 = 0 then (g_X12_walks_b58 F (g_X12_walks_h18 F n) x1 x2 x3 ((41 * x2) + x3) (-1) σ107) else (if 0 ≤ mw (6 + x1) ∧ mw (6 + x1) < (132 : Int) then g_X12_walks_b58 F (g_X12_walks_h18 F n) x1 x2 x3 ((41 * x2) + x3) (σ107 112 (mw (6 + x1)).toNat) σ107 else none)))
set_option maxRecDepth 100000 in
set_option maxHeartbeats 4000000 in
theorem w_X12_walks_h18 {p : Program} {l : Launch} {e : Env} {s : State} {m : MethodId} {args : Array Value} {below : List Frame} {meth : Method} {c : Code} {D : va_G} {cy : Nat → ClassId} {ad : Nat → Nat} {bs : Nat} {F : Nat}  (X : mCx p m c cX12_walks 4 s args RX12 meth D cy none)  {r : Int} {σ' : mMem}   (n : Nat) : ∀ {x1 x2 x3 : Int} {σ : mMem} {H : Heap} {locs : List Loc} {ls : Array Slot} (_ : mWd D cy ad bs true mN σ s.heap H locs) (_ : lv_has ls 4 [(0, .ref (ad 86)), (1, .int (mI x1)), (2, .int (mI x2)), (3, .int (mI x3))]) (_ : g_X12_walks_h18 F n x1 x2 x3 σ = some (r, σ')), mGv p l e 8 s m args below meth c D cy ad bs σ' H locs (F0 m 18 ls []) := by
  obtain ⟨⟨hx, hb, -, -, -⟩, -⟩ := id X
  induction n with
  | zero =>
    intro x1 x2 x3 σ H locs ls hw hl hf
    unfold g_X12_walks_h18 at hf
    cases hf
  | succ n ih =>
    have hk18 : ∀ (x1 x2 x3 : Int) (σ : mMem) (H : Heap) (locs : List Loc) (ls : Array Slot), mWd D cy ad bs true mN σ s.heap H locs → lv_has ls 4 [(0, .ref (ad 86)), (1, .int (mI x1)), (2, .int (mI x2)), (3, .int (mI x3))] → g_X12_walks_h18 F n x1 x2 x3 σ = some (r, σ') → mGv p l e 8 s m args below meth c D cy ad bs σ' H locs (F0 m 18 ls []) := fun x1 x2 x3 σ H locs ls hw hl hf => ih hw hl hf
    intro x1 x2 x3 σ H locs ls hw hl hf
    unfold g_X12_walks_h18 at hf
    refine lv_iload_n hx hb dX12_walks_18 rfl (lv_at hl 3 rfl) ?_
    refine lv_bipush (v := mI 40) hx hb dX12_walks_19 (by decide) ?_
    refine r_icmp_gt (tgt := 84) X dX12_walks_21 (by decide) hf (fun hc hf => ?_) (fun hc hf => ?_)
    · refine lv_aload_n hx hb dX12_walks_84 rfl (lv_at hl 0 rfl) ?_
      refine lv_iconst (v := mI (-1)) hx hb dX12_walks_85 rfl ?_
      refine r_puti X hw sh_86 fd_12_60 fp_12_60 rfl rfl lf_X12_195 dX12_walks_86 (fun H locs hw => ?_)
      refine r_mem hf hw (fun σ105 hw hf => ?_)
      exact r_vret X hw dX12_walks_89 hf
    · refine lv_aload_n hx hb dX12_walks_24 rfl (lv_at hl 0 rfl) ?_
      refine r_getr 124 X hw sh_86 fd_12_69 rfl rfl lf_X12_222 dX12_walks_25 ?_
      refine lv_bipush (v := mI 41) hx hb dX12_walks_28 (by decide) ?_
      refine lv_iload_n hx hb dX12_walks_30 rfl (lv_at hl 2 rfl) ?_
      refine r_imul X dX12_walks_31 ?_
      refine lv_iload_n hx hb dX12_walks_32 rfl (lv_at hl 3 rfl) ?_
      refine r_iadd X dX12_walks_33 ?_
      refine lv_aload_n hx hb dX12_walks_34 rfl (lv_at hl 0 rfl) ?_
      refine lv_iload_n hx hb dX12_walks_35 rfl (lv_at hl 3 rfl) ?_
      refine lv_iconst (v := mI 0) hx hb dX12_walks_36 rfl ?_
      refine lv_bipush (v := mI 40) hx hb dX12_walks_37 (by decide) ?_
      refine r_cvi (rest := [.int (mI ((41 * x2) + x3)), .ref (ad 124)]) [.int (mI x3), .int (mI 0), .int (mI 40)] X hw (fun ra σa h => c_X12_isAhead l D cy ad bs F x3 0 40 σ ra σa  h) sh_86 rfl (by decide) rfl km_X12_isAhead kv_X12_isAhead lm_X12_497 dX12_walks_39 hl.1 rfl rfl (Nat.le_of_ble_eq_true rfl) ⟨by decide, by decide⟩ ⟨Nat.zero_le _, Nat.zero_le _⟩ hf (fun r106 σ107 _ hf H locs hw => ?_)
      refine r_if_eq (tgt := 57) X dX12_walks_42 (by decide) hf (fun hc hf => ?_) (fun hc hf => ?_)
      · refine lv_iconst (v := mI (-1)) hx hb dX12_walks_57 rfl ?_
        exact w_X12_walks_b58 X hk18 hw (lv_sub hl [0, 1, 2, 3] rfl) hf
      · refine lv_aload_n hx hb dX12_walks_45 rfl (lv_at hl 0 rfl) ?_
        refine r_getr 112 X hw sh_86 fd_12_45 rfl rfl lf_X12_150 dX12_walks_46 ?_
        refine lv_bipush (v := mI 6) hx hb dX12_walks_49 (by decide) ?_
        refine lv_iload_n hx hb dX12_walks_51 rfl (lv_at hl 1 rfl) ?_
        refine r_iadd X dX12_walks_52 ?_
        refine r_iald (132 : Int) rfl X hw sh_112 dX12_walks_53 hf (fun hf => ?_)
        refine lv_goto (tgt := 58) hx hb dX12_walks_54 (by decide) ?_
        exact w_X12_walks_b58 X hk18 hw (lv_sub hl [0, 1, 2, 3] rfl) hf
def g_X12_walks (F : Nat) (x1 x2 : Int) (σ : mMem) : mRs := mlm (mup σ 86 60 x1) (fun σ1 => mlm (mup σ1 86 61 x2) (fun σ2 => mob (g_X12_copies F 1 0 σ2) (fun r3 σ4 => g_X12_walks_h18 F F x1 x2 0 σ4)))
set_option maxRecDepth 100000 in
set_option maxHeartbeats 4000000 in
theorem c_X12_walks (l : Launch) (D : va_G) (cy : Nat → ClassId) (ad : Nat → Nat) (bs : Nat) (F : Nat)  (x1 x2 : Int) (σ : mMem) (r : Int) (σ' : mMem)  (hf : g_X12_walks F x1 x2 σ = some (r, σ')) : mCv l D cy ad bs yX12_walks cX12_walks 4 none 8 [.ref (ad 86), .int (mI x1), .int (mI x2)] σ σ' := by
  refine mCv.of (lv := [(0, .ref (ad 86)), (1, .int (mI x1)), (2, .int (mI x2))]) km_X12_walks.2.2.2.2.2 (Nat.le_of_ble_eq_true rfl) rfl (fun p e s m args below meth c H locs ls X hw hl => ?_)
  obtain ⟨⟨hx, hb, -, -, -⟩, -⟩ := id X
  unfold g_X12_walks at hf
  refine lv_aload_n hx hb dX12_walks_0 rfl (lv_at hl 0 rfl) ?_
  refine lv_iload_n hx hb dX12_walks_1 rfl (lv_at hl 1 rfl) ?_
  refine r_puti X hw sh_86 fd_12_60 fp_12_60 rfl rfl lf_X12_195 dX12_walks_2 (fun H locs hw => ?_)
  refine r_mem hf hw (fun σ1 hw hf => ?_)
  refine lv_aload_n hx hb dX12_walks_5 rfl (lv_at hl 0 rfl) ?_
  refine lv_iload_n hx hb dX12_walks_6 rfl (lv_at hl 2 rfl) ?_
  refine r_puti X hw sh_86 fd_12_61 fp_12_61 rfl rfl lf_X12_198 dX12_walks_7 (fun H locs hw => ?_)
  refine r_mem hf hw (fun σ2 hw hf => ?_)
  refine lv_aload_n hx hb dX12_walks_10 rfl (lv_at hl 0 rfl) ?_
  refine lv_iconst (v := mI 1) hx hb dX12_walks_11 rfl ?_
  refine lv_iconst (v := mI 0) hx hb dX12_walks_12 rfl ?_
  refine r_cvv (rest := []) [.int (mI 1), .int (mI 0)] X hw (fun ra σa h => c_X12_copies l D cy ad bs F 1 0 σ2 ra σa  h) sh_86 rfl (by decide) rfl km_X12_copies kv_X12_copies lm_X12_421 dX12_walks_13 hl.1 rfl rfl (Nat.le_of_ble_eq_true rfl) ⟨by decide, by decide⟩ ⟨Nat.zero_le _, Nat.zero_le _⟩ hf (fun r3 σ4 _ hf H locs hw => ?_)
  refine lv_iconst (v := mI 0) hx hb dX12_walks_16 rfl ?_
  refine lv_istore_n (lv' := [(3, .int (mI 0)), (0, .ref (ad 86)), (1, .int (mI x1)), (2, .int (mI x2))]) hx hb dX12_walks_17 rfl hl (by decide) rfl (fun ls hl => ?_)
  exact w_X12_walks_h18 X _ hw (lv_sub hl [1, 2, 3, 0] rfl) hf
def g_X12_isTrack_h2 (F : Nat)  : Nat → Int → Int → mMem → mRs
  | 0, _, _, _ => none
  | n + 1, x1, x2, σ => if mw (σ 86 66) ≤ mw x2 then (if mw 1 = 0 ∨ mw 1 = 1 then some (1, σ) else none) else (if 0 ≤ mw x2 ∧ mw x2 < (16 : Int) then if 0 ≤ mw ((41 * x1) + (σ 122 (mw x2).toNat)) ∧ mw ((41 * x1) + (σ 122 (mw x2).toNat)) < (410 : Int) then if 0 ≤ mw x2 ∧ mw x2 < (16 : Int) then if mw (σ 124 (mw ((41 * x1) + (σ 122 (mw x2).toNat))).toNat) = mw (σ 123 (mw x2).toNat) then ((g_X12_isTrack_h2 F n) x1 (x2 + 1) σ) else (if mw 0 = 0 ∨ mw 0 = 1 then some (0, σ) else none) else none else none else none)
set_option maxRecDepth 100000 in
set_option maxHeartbeats 4000000 in
theorem w_X12_isTrack_h2 {p : Program} {l : Launch} {e : Env} {s : State} {m : MethodId} {args : Array Value} {below : List Frame} {meth : Method} {c : Code} {D : va_G} {cy : Nat → ClassId} {ad : Nat → Nat} {bs : Nat} {F : Nat}  (X : mCx p m c cX12_isTrack 3 s args RX12 meth D cy (some .boolean))  {r : Int} {σ' : mMem}   (n : Nat) : ∀ {x1 x2 : Int} {σ : mMem} {H : Heap} {locs : List Loc} {ls : Array Slot} (_ : mWd D cy ad bs true mN σ s.heap H locs) (_ : lv_has ls 3 [(0, .ref (ad 86)), (1, .int (mI x1)), (2, .int (mI x2))]) (_ : g_X12_isTrack_h2 F n x1 x2 σ = some (r, σ')), mGi p l e 1 s m args below meth c D cy ad bs r σ' H locs (F0 m 2 ls []) := by
  obtain ⟨⟨hx, hb, -, -, -⟩, -⟩ := id X
  induction n with
  | zero =>
    intro x1 x2 σ H locs ls hw hl hf
    unfold g_X12_isTrack_h2 at hf
    cases hf
  | succ n ih =>
    have hk2 : ∀ (x1 x2 : Int) (σ : mMem) (H : Heap) (locs : List Loc) (ls : Array Slot), mWd D cy ad bs true mN σ s.heap H locs → lv_has ls 3 [(0, .ref (ad 86)), (1, .int (mI x1)), (2, .int (mI x2))] → g_X12_isTrack_h2 F n x1 x2 σ = some (r, σ') → mGi p l e 1 s m args below meth c D cy ad bs r σ' H locs (F0 m 2 ls []) := fun x1 x2 σ H locs ls hw hl hf => ih hw hl hf
    intro x1 x2 σ H locs ls hw hl hf
    unfold g_X12_isTrack_h2 at hf
    refine lv_iload_n hx hb dX12_isTrack_2 rfl (lv_at hl 2 rfl) ?_
    refine lv_aload_n hx hb dX12_isTrack_3 rfl (lv_at hl 0 rfl) ?_
    refine r_geti X hw sh_86 fd_12_66 rfl lf_X12_213 dX12_isTrack_4 ?_
    refine r_icmp_ge (tgt := 43) X dX12_isTrack_7 (by decide) hf (fun hc hf => ?_) (fun hc hf => ?_)
    · refine lv_iconst (v := mI 1) hx hb dX12_isTrack_43 rfl ?_
      exact r_zret X hw dX12_isTrack_44 hf
    · refine lv_aload_n hx hb dX12_isTrack_10 rfl (lv_at hl 0 rfl) ?_
      refine r_getr 124 X hw sh_86 fd_12_69 rfl rfl lf_X12_222 dX12_isTrack_11 ?_
      refine lv_bipush (v := mI 41) hx hb dX12_isTrack_14 (by decide) ?_
      refine lv_iload_n hx hb dX12_isTrack_16 rfl (lv_at hl 1 rfl) ?_
      refine r_imul X dX12_isTrack_17 ?_
      refine lv_aload_n hx hb dX12_isTrack_18 rfl (lv_at hl 0 rfl) ?_
      refine r_getr 122 X hw sh_86 fd_12_67 rfl rfl lf_X12_216 dX12_isTrack_19 ?_
      refine lv_iload_n hx hb dX12_isTrack_22 rfl (lv_at hl 2 rfl) ?_
      refine r_iald (16 : Int) rfl X hw sh_122 dX12_isTrack_23 hf (fun hf => ?_)
      refine r_iadd X dX12_isTrack_24 ?_
      refine r_iald (410 : Int) rfl X hw sh_124 dX12_isTrack_25 hf (fun hf => ?_)
      refine lv_aload_n hx hb dX12_isTrack_26 rfl (lv_at hl 0 rfl) ?_
      refine r_getr 123 X hw sh_86 fd_12_68 rfl rfl lf_X12_219 dX12_isTrack_27 ?_
      refine lv_iload_n hx hb dX12_isTrack_30 rfl (lv_at hl 2 rfl) ?_
      refine r_iald (16 : Int) rfl X hw sh_123 dX12_isTrack_31 hf (fun hf => ?_)
      refine r_icmp_eq (tgt := 37) X dX12_isTrack_32 (by decide) hf (fun hc hf => ?_) (fun hc hf => ?_)
      · refine lv_iinc (v := mI (x2 + 1)) (lv' := [(2, .int (mI (x2 + 1))), (0, .ref (ad 86)), (1, .int (mI x1))]) hx hb dX12_isTrack_37 hl (k := 2) rfl (mI_add _ _) (by decide) rfl (fun ls hl => ?_)
        refine lv_goto (tgt := 2) hx hb dX12_isTrack_40 (by decide) ?_
        exact hk2 x1 (x2 + 1) σ _ _ _ hw (lv_sub hl [1, 2, 0] rfl) hf
      · refine lv_iconst (v := mI 0) hx hb dX12_isTrack_35 rfl ?_
        exact r_zret X hw dX12_isTrack_36 hf
def g_X12_isTrack (F : Nat) (x1 : Int) (σ : mMem) : mRs := g_X12_isTrack_h2 F F x1 0 σ
set_option maxRecDepth 100000 in
set_option maxHeartbeats 4000000 in
theorem c_X12_isTrack (l : Launch) (D : va_G) (cy : Nat → ClassId) (ad : Nat → Nat) (bs : Nat) (F : Nat)  (x1 : Int) (σ : mMem) (r : Int) (σ' : mMem)  (hf : g_X12_isTrack F x1 σ = some (r, σ')) : mCi l D cy ad bs yX12_isTrack cX12_isTrack 3 (some .boolean) 1 [.ref (ad 86), .int (mI x1)] σ r σ' := by
  refine mCi.of (lv := [(0, .ref (ad 86)), (1, .int (mI x1))]) km_X12_isTrack.2.2.2.2.2 (Nat.le_of_ble_eq_true rfl) rfl (fun p e s m args below meth c H locs ls X hw hl => ?_)
  obtain ⟨⟨hx, hb, -, -, -⟩, -⟩ := id X
  unfold g_X12_isTrack at hf
  refine lv_iconst (v := mI 0) hx hb dX12_isTrack_0 rfl ?_
  refine lv_istore_n (lv' := [(2, .int (mI 0)), (0, .ref (ad 86)), (1, .int (mI x1))]) hx hb dX12_isTrack_1 rfl hl (by decide) rfl (fun ls hl => ?_)
  exact w_X12_isTrack_h2 X _ hw (lv_sub hl [1, 2, 0] rfl) hf
def g_X12_wheel_b17 (F : Nat)  (σ : mMem) : mRs := some ((-1), σ)
set_option maxRecDepth 100000 in
set_option maxHeartbeats 4000000 in
theorem w_X12_wheel_b17 {p : Program} {l : Launch} {e : Env} {s : State} {m : MethodId} {args : Array Value} {below : List Frame} {meth : Method} {c : Code} {D : va_G} {cy : Nat → ClassId} {ad : Nat → Nat} {bs : Nat} {F : Nat}  (X : mCx p m c cX12_wheel 11 s args RX12 meth D cy (some .int))  {r : Int} {σ' : mMem}    {σ : mMem} {H : Heap} {locs : List Loc} {ls : Array Slot} (hw : mWd D cy ad bs true mN σ s.heap H locs) (hl : lv_has ls 11 [(0, .ref (ad 86))]) (hf : g_X12_wheel_b17 F  σ = some (r, σ')) : mGi p l e 9 s m args below meth c D cy ad bs r σ' H locs (F0 m 17 ls []) := by
  obtain ⟨⟨hx, hb, -, -, -⟩, -⟩ := id X
  unfold g_X12_wheel_b17 at hf
  refine lv_iconst (v := mI (-1)) hx hb dX12_wheel_17 rfl ?_
  exact r_iret X hw dX12_wheel_18 hf
def g_X12_wheel_b234 (F : Nat)  (x4 : Int) (σ : mMem) : mRs := some (x4, σ)
set_option maxRecDepth 100000 in
set_option maxHeartbeats 4000000 in
theorem w_X12_wheel_b234 {p : Program} {l : Launch} {e : Env} {s : State} {m : MethodId} {args : Array Value} {below : List Frame} {meth : Method} {c : Code} {D : va_G} {cy : Nat → ClassId} {ad : Nat → Nat} {bs : Nat} {F : Nat}  (X : mCx p m c cX12_wheel 11 s args RX12 meth D cy (some .int))  {r : Int} {σ' : mMem}   {x4 : Int} {σ : mMem} {H : Heap} {locs : List Loc} {ls : Array Slot} (hw : mWd D cy ad bs true mN σ s.heap H locs) (hl : lv_has ls 11 [(0, .ref (ad 86)), (4, .int (mI x4))]) (hf : g_X12_wheel_b234 F x4 σ = some (r, σ')) : mGi p l e 9 s m args below meth c D cy ad bs r σ' H locs (F0 m 234 ls []) := by
  obtain ⟨⟨hx, hb, -, -, -⟩, -⟩ := id X
  unfold g_X12_wheel_b234 at hf
  refine lv_iload hx hb dX12_wheel_234 (lv_at hl 1 rfl) ?_
  exact r_iret X hw dX12_wheel_236 hf
def g_X12_wheel_b228 (F : Nat) (k81 : Int → Int → Int → Int → mMem → mRs) (x3 x4 x5 x6 : Int) (σ : mMem) : mRs := k81 x3 x4 x5 (x6 + 1) σ
set_option maxRecDepth 100000 in
set_option maxHeartbeats 4000000 in
theorem w_X12_wheel_b228 {p : Program} {l : Launch} {e : Env} {s : State} {m : MethodId} {args : Array Value} {below : List Frame} {meth : Method} {c : Code} {D : va_G} {cy : Nat → ClassId} {ad : Nat → Nat} {bs : Nat} {F : Nat}  (X : mCx p m c cX12_wheel 11 s args RX12 meth D cy (some .int))  {r : Int} {σ' : mMem} {k81 : Int → Int → Int → Int → mMem → mRs} (hk81 : ∀ (x3 x4 x5 x6 : Int) (σ : mMem) (H : Heap) (locs : List Loc) (ls : Array Slot), mWd D cy ad bs true mN σ s.heap H locs → lv_has ls 11 [(0, .ref (ad 86)), (3, .int (mI x3)), (4, .int (mI x4)), (5, .int (mI x5)), (6, .int (mI x6))] → k81 x3 x4 x5 x6 σ = some (r, σ') → mGi p l e 9 s m args below meth c D cy ad bs r σ' H locs (F0 m 81 ls [])) {x3 x4 x5 x6 : Int} {σ : mMem} {H : Heap} {locs : List Loc} {ls : Array Slot} (hw : mWd D cy ad bs true mN σ s.heap H locs) (hl : lv_has ls 11 [(0, .ref (ad 86)), (3, .int (mI x3)), (4, .int (mI x4)), (5, .int (mI x5)), (6, .int (mI x6))]) (hf : g_X12_wheel_b228 F k81 x3 x4 x5 x6 σ = some (r, σ')) : mGi p l e 9 s m args below meth c D cy ad bs r σ' H locs (F0 m 228 ls []) := by
  obtain ⟨⟨hx, hb, -, -, -⟩, -⟩ := id X
  unfold g_X12_wheel_b228 at hf
  refine lv_iinc (v := mI (x6 + 1)) (lv' := [(6, .int (mI (x6 + 1))), (0, .ref (ad 86)), (3, .int (mI x3)), (4, .int (mI x4)), (5, .int (mI x5))]) hx hb dX12_wheel_228 hl (k := 4) rfl (mI_add _ _) (by decide) rfl (fun ls hl => ?_)
  refine lv_goto (tgt := 81) hx hb dX12_wheel_231 (by decide) ?_
  exact hk81 x3 x4 x5 (x6 + 1) σ _ _ _ hw (lv_sub hl [1, 2, 3, 4, 0] rfl) hf
def g_X12_wheel_b202 (F : Nat) (k81 : Int → Int → Int → Int → mMem → mRs) (k103 : Int → Int → Int → Int → Int → Int → mMem → mRs) (x3 x4 x5 x6 x8 t0 : Int) (σ : mMem) : mRs := k103 x3 x4 x5 x6 t0 (x8 + 1) σ
set_option maxRecDepth 100000 in
set_option maxHeartbeats 4000000 in
theorem w_X12_wheel_b202 {p : Program} {l : Launch} {e : Env} {s : State} {m : MethodId} {args : Array Value} {below : List Frame} {meth : Method} {c : Code} {D : va_G} {cy : Nat → ClassId} {ad : Nat → Nat} {bs : Nat} {F : Nat}  (X : mCx p m c cX12_wheel 11 s args RX12 meth D cy (some .int))  {r : Int} {σ' : mMem} {k81 : Int → Int → Int → Int → mMem → mRs} {k103 : Int → Int → Int → Int → Int → Int → mMem → mRs} (hk81 : ∀ (x3 x4 x5 x6 : Int) (σ : mMem) (H : Heap) (locs : List Loc) (ls : Array Slot), mWd D cy ad bs true mN σ s.heap H locs → lv_has ls 11 [(0, .ref (ad 86)), (3, .int (mI x3)), (4, .int (mI x4)), (5, .int (mI x5)), (6, .int (mI x6))] → k81 x3 x4 x5 x6 σ = some (r, σ') → mGi p l e 9 s m args below meth c D cy ad bs r σ' H locs (F0 m 81 ls [])) (hk103 : ∀ (x3 x4 x5 x6 x7 x8 : Int) (σ : mMem) (H : Heap) (locs : List Loc) (ls : Array Slot), mWd D cy ad bs true mN σ s.heap H locs → lv_has ls 11 [(0, .ref (ad 86)), (3, .int (mI x3)), (4, .int (mI x4)), (5, .int (mI x5)), (6, .int (mI x6)), (7, .int (mI x7)), (8, .int (mI x8))] → k103 x3 x4 x5 x6 x7 x8 σ = some (r, σ') → mGi p l e 9 s m args below meth c D cy ad bs r σ' H locs (F0 m 103 ls [])) {x3 x4 x5 x6 x8 t0 : Int} {σ : mMem} {H : Heap} {locs : List Loc} {ls : Array Slot} (hw : mWd D cy ad bs true mN σ s.heap H locs) (hl : lv_has ls 11 [(0, .ref (ad 86)), (3, .int (mI x3)), (4, .int (mI x4)), (5, .int (mI x5)), (6, .int (mI x6)), (8, .int (mI x8))]) (hf : g_X12_wheel_b202 F k81 k103 x3 x4 x5 x6 x8 t0 σ = some (r, σ')) : mGi p l e 9 s m args below meth c D cy ad bs r σ' H locs (F0 m 202 ls [.int (mI t0)]) := by
  obtain ⟨⟨hx, hb, -, -, -⟩, -⟩ := id X
  unfold g_X12_wheel_b202 at hf
  refine lv_istore (lv' := [(7, .int (mI t0)), (0, .ref (ad 86)), (3, .int (mI x3)), (4, .int (mI x4)), (5, .int (mI x5)), (6, .int (mI x6)), (8, .int (mI x8))]) hx hb dX12_wheel_202 hl (by decide) rfl (fun ls hl => ?_)
  refine lv_iinc (v := mI (x8 + 1)) (lv' := [(8, .int (mI (x8 + 1))), (7, .int (mI t0)), (0, .ref (ad 86)), (3, .int (mI x3)), (4, .int (mI x4)), (5, .int (mI x5)), (6, .int (mI x6))]) hx hb dX12_wheel_204 hl (k := 6) rfl (mI_add _ _) (by decide) rfl (fun ls hl => ?_)
  refine lv_goto (tgt := 103) hx hb dX12_wheel_207 (by decide) ?_
  exact hk103 x3 x4 x5 x6 t0 (x8 + 1) σ _ _ _ hw (lv_sub hl [2, 3, 4, 5, 6, 1, 0] rfl) hf
def g_X12_wheel_b179 (F : Nat) (k81 : Int → Int → Int → Int → mMem → mRs) (k103 : Int → Int → Int → Int → Int → Int → mMem → mRs) (k116 : Int → Int → Int → Int → Int → Int → Int → Int → mMem → mRs) (x3 x4 x5 x6 x7 x8 x10 t0 t1 : Int) (σ : mMem) : mRs := mlet (t0 + t1) (fun y1012 => k116 x3 x4 x5 x6 x7 x8 y1012 (x10 + 1) σ)
set_option maxRecDepth 100000 in
set_option maxHeartbeats 4000000 in
theorem w_X12_wheel_b179 {p : Program} {l : Launch} {e : Env} {s : State} {m : MethodId} {args : Array Value} {below : List Frame} {meth : Method} {c : Code} {D : va_G} {cy : Nat → ClassId} {ad : Nat → Nat} {bs : Nat} {F : Nat}  (X : mCx p m c cX12_wheel 11 s args RX12 meth D cy (some .int))  {r : Int} {σ' : mMem} {k81 : Int → Int → Int → Int → mMem → mRs} {k103 : Int → Int → Int → Int → Int → Int → mMem → mRs} {k116 : Int → Int → Int → Int → Int → Int → Int → Int → mMem → mRs} (hk81 : ∀ (x3 x4 x5 x6 : Int) (σ : mMem) (H : Heap) (locs : List Loc) (ls : Array Slot), mWd D cy ad bs true mN σ s.heap H locs → lv_has ls 11 [(0, .ref (ad 86)), (3, .int (mI x3)), (4, .int (mI x4)), (5, .int (mI x5)), (6, .int (mI x6))] → k81 x3 x4 x5 x6 σ = some (r, σ') → mGi p l e 9 s m args below meth c D cy ad bs r σ' H locs (F0 m 81 ls [])) (hk103 : ∀ (x3 x4 x5 x6 x7 x8 : Int) (σ : mMem) (H : Heap) (locs : List Loc) (ls : Array Slot), mWd D cy ad bs true mN σ s.heap H locs → lv_has ls 11 [(0, .ref (ad 86)), (3, .int (mI x3)), (4, .int (mI x4)), (5, .int (mI x5)), (6, .int (mI x6)), (7, .int (mI x7)), (8, .int (mI x8))] → k103 x3 x4 x5 x6 x7 x8 σ = some (r, σ') → mGi p l e 9 s m args below meth c D cy ad bs r σ' H locs (F0 m 103 ls [])) (hk116 : ∀ (x3 x4 x5 x6 x7 x8 x9 x10 : Int) (σ : mMem) (H : Heap) (locs : List Loc) (ls : Array Slot), mWd D cy ad bs true mN σ s.heap H locs → lv_has ls 11 [(0, .ref (ad 86)), (3, .int (mI x3)), (4, .int (mI x4)), (5, .int (mI x5)), (6, .int (mI x6)), (7, .int (mI x7)), (8, .int (mI x8)), (9, .int (mI x9)), (10, .int (mI x10))] → k116 x3 x4 x5 x6 x7 x8 x9 x10 σ = some (r, σ') → mGi p l e 9 s m args below meth c D cy ad bs r σ' H locs (F0 m 116 ls [])) {x3 x4 x5 x6 x7 x8 x10 t0 t1 : Int} {σ : mMem} {H : Heap} {locs : List Loc} {ls : Array Slot} (hw : mWd D cy ad bs true mN σ s.heap H locs) (hl : lv_has ls 11 [(0, .ref (ad 86)), (3, .int (mI x3)), (4, .int (mI x4)), (5, .int (mI x5)), (6, .int (mI x6)), (7, .int (mI x7)), (8, .int (mI x8)), (10, .int (mI x10))]) (hf : g_X12_wheel_b179 F k81 k103 k116 x3 x4 x5 x6 x7 x8 x10 t0 t1 σ = some (r, σ')) : mGi p l e 9 s m args below meth c D cy ad bs r σ' H locs (F0 m 179 ls [.int (mI t1), .int (mI t0)]) := by
  obtain ⟨⟨hx, hb, -, -, -⟩, -⟩ := id X
  unfold g_X12_wheel_b179 at hf
  refine r_iadd X dX12_wheel_179 ?_
  refine r_leti hf (fun y1012 hf => ?_)
  refine lv_istore (lv' := [(9, .int (mI y1012)), (0, .ref (ad 86)), (3, .int (mI x3)), (4, .int (mI x4)), (5, .int (mI x5)), (6, .int (mI x6)), (7, .int (mI x7)), (8, .int (mI x8)), (10, .int (mI x10))]) hx hb dX12_wheel_180 hl (by decide) rfl (fun ls hl => ?_)
  refine lv_iinc (v := mI (x10 + 1)) (lv' := [(10, .int (mI (x10 + 1))), (9, .int (mI y1012)), (0, .ref (ad 86)), (3, .int (mI x3)), (4, .int (mI x4)), (5, .int (mI x5)), (6, .int (mI x6)), (7, .int (mI x7)), (8, .int (mI x8))]) hx hb dX12_wheel_182 hl (k := 8) rfl (mI_add _ _) (by decide) rfl (fun ls hl => ?_)
  refine lv_goto (tgt := 116) hx hb dX12_wheel_185 (by decide) ?_
  exact hk116 x3 x4 x5 x6 x7 x8 y1012 (x10 + 1) σ _ _ _ hw (lv_sub hl [2, 3, 4, 5, 6, 7, 8, 1, 0] rfl) hf
def g_X12_wheel_b178 (F : Nat) (k81 : Int → Int → Int → Int → mMem → mRs) (k103 : Int → Int → Int → Int → Int → Int → mMem → mRs) (k116 : Int → Int → Int → Int → Int → Int → Int → Int → mMem → mRs) (x3 x4 x5 x6 x7 x8 x10 t0 : Int) (σ : mMem) : mRs := g_X12_wheel_b179 F k81 k103 k116 x3 x4 x5 x6 x7 x8 x10 t0 0 σ
set_option maxRecDepth 100000 in
set_option maxHeartbeats 4000000 in
theorem w_X12_wheel_b178 {p : Program} {l : Launch} {e : Env} {s : State} {m : MethodId} {args : Array Value} {below : List Frame} {meth : Method} {c : Code} {D : va_G} {cy : Nat → ClassId} {ad : Nat → Nat} {bs : Nat} {F : Nat}  (X : mCx p m c cX12_wheel 11 s args RX12 meth D cy (some .int))  {r : Int} {σ' : mMem} {k81 : Int → Int → Int → Int → mMem → mRs} {k103 : Int → Int → Int → Int → Int → Int → mMem → mRs} {k116 : Int → Int → Int → Int → Int → Int → Int → Int → mMem → mRs} (hk81 : ∀ (x3 x4 x5 x6 : Int) (σ : mMem) (H : Heap) (locs : List Loc) (ls : Array Slot), mWd D cy ad bs true mN σ s.heap H locs → lv_has ls 11 [(0, .ref (ad 86)), (3, .int (mI x3)), (4, .int (mI x4)), (5, .int (mI x5)), (6, .int (mI x6))] → k81 x3 x4 x5 x6 σ = some (r, σ') → mGi p l e 9 s m args below meth c D cy ad bs r σ' H locs (F0 m 81 ls [])) (hk103 : ∀ (x3 x4 x5 x6 x7 x8 : Int) (σ : mMem) (H : Heap) (locs : List Loc) (ls : Array Slot), mWd D cy ad bs true mN σ s.heap H locs → lv_has ls 11 [(0, .ref (ad 86)), (3, .int (mI x3)), (4, .int (mI x4)), (5, .int (mI x5)), (6, .int (mI x6)), (7, .int (mI x7)), (8, .int (mI x8))] → k103 x3 x4 x5 x6 x7 x8 σ = some (r, σ') → mGi p l e 9 s m args below meth c D cy ad bs r σ' H locs (F0 m 103 ls [])) (hk116 : ∀ (x3 x4 x5 x6 x7 x8 x9 x10 : Int) (σ : mMem) (H : Heap) (locs : List Loc) (ls : Array Slot), mWd D cy ad bs true mN σ s.heap H locs → lv_has ls 11 [(0, .ref (ad 86)), (3, .int (mI x3)), (4, .int (mI x4)), (5, .int (mI x5)), (6, .int (mI x6)), (7, .int (mI x7)), (8, .int (mI x8)), (9, .int (mI x9)), (10, .int (mI x10))] → k116 x3 x4 x5 x6 x7 x8 x9 x10 σ = some (r, σ') → mGi p l e 9 s m args below meth c D cy ad bs r σ' H locs (F0 m 116 ls [])) {x3 x4 x5 x6 x7 x8 x10 t0 : Int} {σ : mMem} {H : Heap} {locs : List Loc} {ls : Array Slot} (hw : mWd D cy ad bs true mN σ s.heap H locs) (hl : lv_has ls 11 [(0, .ref (ad 86)), (3, .int (mI x3)), (4, .int (mI x4)), (5, .int (mI x5)), (6, .int (mI x6)), (7, .int (mI x7)), (8, .int (mI x8)), (10, .int (mI x10))]) (hf : g_X12_wheel_b178 F k81 k103 k116 x3 x4 x5 x6 x7 x8 x10 t0 σ = some (r, σ')) : mGi p l e 9 s m args below meth c D cy ad bs r σ' H locs (F0 m 178 ls [.int (mI t0)]) := by
  obtain ⟨⟨hx, hb, -, -, -⟩, -⟩ := id X
  unfold g_X12_wheel_b178 at hf
  refine lv_iconst (v := mI 0) hx hb dX12_wheel_178 rfl ?_
  exact w_X12_wheel_b179 X hk81 hk103 hk116 hw (lv_sub hl [0, 1, 2, 3, 4, 5, 6, 7] rfl) hf
def g_X12_wheel_h116 (F : Nat) (k81 : Int → Int → Int → Int → mMem → mRs) (k103 : Int → Int → Int → Int → Int → Int → mMem → mRs) : Nat → Int → Int → Int → Int → Int → Int → Int → Int → mMem → mRs
  | 0, _, _, _, _, _, _, _, _, _ => none
  | n + 1, x3, x4, x5, x6, x7, x8, x9, x10, σ => if mw 10 ≤ mw x10 then (if mw x9 ≤ mw x7 then (g_X12_wheel_b202 F k81 k103 x3 x4 x5 x6 x8 x7 σ) else (g_X12_wheel_b202 F k81 k103 x3 x4 x5 x6 x8 x9 σ)) else (if ¬ mw (mand (mshr x3 x8) 1) = mw 1 then (g_X12_wheel_b178 F k81 k103 (g_X12_wheel_h116 F k81 k103 n) x3 x4 x5 x6 x7 x8 x10 x9 σ) else (if ¬ mw (mand (mshr x3 x10) 1) = mw 1 then (g_X12_wheel_b178 F k81 k103 (g_X12_wheel_h116 F k81 k103 n) x3 x4 x5 x6 x7 x8 x10 x9 σ) else (if 0 ≤ mw ((41 * x8) + x6) ∧ mw ((41 * x8) + x6) < (410 : Int) then if 0 ≤ mw ((41 * x10) + x6) ∧ mw ((41 * x10) + x6) < (410 : Int) then if ¬ mw (σ 124 (mw ((41 * x8) + x6)).toNat) = mw (σ 124 (mw ((41 * x10) + x6)).toNat) then (g_X12_wheel_b178 F k81 k103 (g_X12_wheel_h116 F k81 k103 n) x3 x4 x5 x6 x7 x8 x10 x9 σ) else (g_X12_wheel_b179 F k81 k103 (g_X12_wheel_h116 F k81 k103 n) x3 x4 x5 x6 x7 x8 x10 x9 1 σ) else none else none)))
set_option maxRecDepth 100000 in
set_option maxHeartbeats 4000000 in
theorem w_X12_wheel_h116 {p : Program} {l : Launch} {e : Env} {s : State} {m : MethodId} {args : Array Value} {below : List Frame} {meth : Method} {c : Code} {D : va_G} {cy : Nat → ClassId} {ad : Nat → Nat} {bs : Nat} {F : Nat}  (X : mCx p m c cX12_wheel 11 s args RX12 meth D cy (some .int))  {r : Int} {σ' : mMem} {k81 : Int → Int → Int → Int → mMem → mRs} {k103 : Int → Int → Int → Int → Int → Int → mMem → mRs} (hk81 : ∀ (x3 x4 x5 x6 : Int) (σ : mMem) (H : Heap) (locs : List Loc) (ls : Array Slot), mWd D cy ad bs true mN σ s.heap H locs → lv_has ls 11 [(0, .ref (ad 86)), (3, .int (mI x3)), (4, .int (mI x4)), (5, .int (mI x5)), (6, .int (mI x6))] → k81 x3 x4 x5 x6 σ = some (r, σ') → mGi p l e 9 s m args below meth c D cy ad bs r σ' H locs (F0 m 81 ls [])) (hk103 : ∀ (x3 x4 x5 x6 x7 x8 : Int) (σ : mMem) (H : Heap) (locs : List Loc) (ls : Array Slot), mWd D cy ad bs true mN σ s.heap H locs → lv_has ls 11 [(0, .ref (ad 86)), (3, .int (mI x3)), (4, .int (mI x4)), (5, .int (mI x5)), (6, .int (mI x6)), (7, .int (mI x7)), (8, .int (mI x8))] → k103 x3 x4 x5 x6 x7 x8 σ = some (r, σ') → mGi p l e 9 s m args below meth c D cy ad bs r σ' H locs (F0 m 103 ls [])) (n : Nat) : ∀ {x3 x4 x5 x6 x7 x8 x9 x10 : Int} {σ : mMem} {H : Heap} {locs : List Loc} {ls : Array Slot} (_ : mWd D cy ad bs true mN σ s.heap H locs) (_ : lv_has ls 11 [(0, .ref (ad 86)), (3, .int (mI x3)), (4, .int (mI x4)), (5, .int (mI x5)), (6, .int (mI x6)), (7, .int (mI x7)), (8, .int (mI x8)), (9, .int (mI x9)), (10, .int (mI x10))]) (_ : g_X12_wheel_h116 F k81 k103 n x3 x4 x5 x6 x7 x8 x9 x10 σ = some (r, σ')), mGi p l e 9 s m args below meth c D cy ad bs r σ' H locs (F0 m 116 ls []) := by
  obtain ⟨⟨hx, hb, -, -, -⟩, -⟩ := id X
  induction n with
  | zero =>
    intro x3 x4 x5 x6 x7 x8 x9 x10 σ H locs ls hw hl hf
    unfold g_X12_wheel_h116 at hf
    cases hf
  | succ n ih =>
    have hk116 : ∀ (x3 x4 x5 x6 x7 x8 x9 x10 : Int) (σ : mMem) (H : Heap) (locs : List Loc) (ls : Array Slot), mWd D cy ad bs true mN σ s.heap H locs → lv_has ls 11 [(0, .ref (ad 86)), (3, .int (mI x3)), (4, .int (mI x4)), (5, .int (mI x5)), (6, .int (mI x6)), (7, .int (mI x7)), (8, .int (mI x8)), (9, .int (mI x9)), (10, .int (mI x10))] → g_X12_wheel_h116 F k81 k103 n x3 x4 x5 x6 x7 x8 x9 x10 σ = some (r, σ') → mGi p l e 9 s m args below meth c D cy ad bs r σ' H locs (F0 m 116 ls []) := fun x3 x4 x5 x6 x7 x8 x9 x10 σ H locs ls hw hl hf => ih hw hl hf
    intro x3 x4 x5 x6 x7 x8 x9 x10 σ H locs ls hw hl hf
    unfold g_X12_wheel_h116 at hf
    refine lv_iload hx hb dX12_wheel_116 (lv_at hl 8 rfl) ?_
    refine lv_bipush (v := mI 10) hx hb dX12_wheel_118 (by decide) ?_
    refine r_icmp_ge (tgt := 188) X dX12_wheel_120 (by decide) hf (fun hc hf => ?_) (fun hc hf => ?_)
    · refine lv_iload hx hb dX12_wheel_188 (lv_at hl 7 rfl) ?_
      refine lv_iload hx hb dX12_wheel_190 (lv_at hl 5 rfl) ?_
      refine r_icmp_le (tgt := 200) X dX12_wheel_192 (by decide) hf (fun hc hf => ?_) (fun hc hf => ?_)
      · refine lv_iload hx hb dX12_wheel_200 (lv_at hl 5 rfl) ?_
        exact w_X12_wheel_b202 X hk81 hk103 hw (lv_sub hl [0, 1, 2, 3, 4, 6] rfl) hf
      · refine lv_iload hx hb dX12_wheel_195 (lv_at hl 7 rfl) ?_
        refine lv_goto (tgt := 202) hx hb dX12_wheel_197 (by decide) ?_
        exact w_X12_wheel_b202 X hk81 hk103 hw (lv_sub hl [0, 1, 2, 3, 4, 6] rfl) hf
    · refine lv_iload hx hb dX12_wheel_123 (lv_at hl 7 rfl) ?_
      refine lv_iload_n hx hb dX12_wheel_125 rfl (lv_at hl 1 rfl) ?_
      refine lv_iload hx hb dX12_wheel_126 (lv_at hl 6 rfl) ?_
      refine r_ishr X dX12_wheel_128 ?_
      refine lv_iconst (v := mI 1) hx hb dX12_wheel_129 rfl ?_
      refine r_iand X dX12_wheel_130 ?_
      refine lv_iconst (v := mI 1) hx hb dX12_wheel_131 rfl ?_
      refine r_icmp_ne (tgt := 178) X dX12_wheel_132 (by decide) hf (fun hc hf => ?_) (fun hc hf => ?_)
      · exact w_X12_wheel_b178 X hk81 hk103 hk116 hw (lv_sub hl [0, 1, 2, 3, 4, 5, 6, 8] rfl) hf
      · refine lv_iload_n hx hb dX12_wheel_135 rfl (lv_at hl 1 rfl) ?_
        refine lv_iload hx hb dX12_wheel_136 (lv_at hl 8 rfl) ?_
        refine r_ishr X dX12_wheel_138 ?_
        refine lv_iconst (v := mI 1) hx hb dX12_wheel_139 rfl ?_
        refine r_iand X dX12_wheel_140 ?_
        refine lv_iconst (v := mI 1) hx hb dX12_wheel_141 rfl ?_
        refine r_icmp_ne (tgt := 178) X dX12_wheel_142 (by decide) hf (fun hc hf => ?_) (fun hc hf => ?_)
        · exact w_X12_wheel_b178 X hk81 hk103 hk116 hw (lv_sub hl [0, 1, 2, 3, 4, 5, 6, 8] rfl) hf
        · refine lv_aload_n hx hb dX12_wheel_145 rfl (lv_at hl 0 rfl) ?_
          refine r_getr 124 X hw sh_86 fd_12_69 rfl rfl lf_X12_222 dX12_wheel_146 ?_
          refine lv_bipush (v := mI 41) hx hb dX12_wheel_149 (by decide) ?_
          refine lv_iload hx hb dX12_wheel_151 (lv_at hl 6 rfl) ?_
          refine r_imul X dX12_wheel_153 ?_
          refine lv_iload hx hb dX12_wheel_154 (lv_at hl 4 rfl) ?_
          refine r_iadd X dX12_wheel_156 ?_
          refine r_iald (410 : Int) rfl X hw sh_124 dX12_wheel_157 hf (fun hf => ?_)
          refine lv_aload_n hx hb dX12_wheel_158 rfl (lv_at hl 0 rfl) ?_
          refine r_getr 124 X hw sh_86 fd_12_69 rfl rfl lf_X12_222 dX12_wheel_159 ?_
          refine lv_bipush (v := mI 41) hx hb dX12_wheel_162 (by decide) ?_
          refine lv_iload hx hb dX12_wheel_164 (lv_at hl 8 rfl) ?_
          refine r_imul X dX12_wheel_166 ?_
          refine lv_iload hx hb dX12_wheel_167 (lv_at hl 4 rfl) ?_
          refine r_iadd X dX12_wheel_169 ?_
          refine r_iald (410 : Int) rfl X hw sh_124 dX12_wheel_170 hf (fun hf => ?_)
          refine r_icmp_ne (tgt := 178) X dX12_wheel_171 (by decide) hf (fun hc hf => ?_) (fun hc hf => ?_)
          · exact w_X12_wheel_b178 X hk81 hk103 hk116 hw (lv_sub hl [0, 1, 2, 3, 4, 5, 6, 8] rfl) hf
          · refine lv_iconst (v := mI 1) hx hb dX12_wheel_174 rfl ?_
            refine lv_goto (tgt := 179) hx hb dX12_wheel_175 (by decide) ?_
            exact w_X12_wheel_b179 X hk81 hk103 hk116 hw (lv_sub hl [0, 1, 2, 3, 4, 5, 6, 8] rfl) hf
def g_X12_wheel_h103 (F : Nat) (k81 : Int → Int → Int → Int → mMem → mRs) : Nat → Int → Int → Int → Int → Int → Int → mMem → mRs
  | 0, _, _, _, _, _, _, _ => none
  | n + 1, x3, x4, x5, x6, x7, x8, σ => if mw 10 ≤ mw x8 then (if mw x7 < mw x5 then (g_X12_wheel_b228 F k81 x3 x6 x7 x6 σ) else (g_X12_wheel_b228 F k81 x3 x4 x5 x6 σ)) else (g_X12_wheel_h116 F k81 (g_X12_wheel_h103 F k81 n) F x3 x4 x5 x6 x7 x8 0 0 σ)
set_option maxRecDepth 100000 in
set_option maxHeartbeats 4000000 in
theorem w_X12_wheel_h103 {p : Program} {l : Launch} {e : Env} {s : State} {m : MethodId} {args : Array Value} {below : List Frame} {meth : Method} {c : Code} {D : va_G} {cy : Nat → ClassId} {ad : Nat → Nat} {bs : Nat} {F : Nat}  (X : mCx p m c cX12_wheel 11 s args RX12 meth D cy (some .int))  {r : Int} {σ' : mMem} {k81 : Int → Int → Int → Int → mMem → mRs} (hk81 : ∀ (x3 x4 x5 x6 : Int) (σ : mMem) (H : Heap) (locs : List Loc) (ls : Array Slot), mWd D cy ad bs true mN σ s.heap H locs → lv_has ls 11 [(0, .ref (ad 86)), (3, .int (mI x3)), (4, .int (mI x4)), (5, .int (mI x5)), (6, .int (mI x6))] → k81 x3 x4 x5 x6 σ = some (r, σ') → mGi p l e 9 s m args below meth c D cy ad bs r σ' H locs (F0 m 81 ls [])) (n : Nat) : ∀ {x3 x4 x5 x6 x7 x8 : Int} {σ : mMem} {H : Heap} {locs : List Loc} {ls : Array Slot} (_ : mWd D cy ad bs true mN σ s.heap H locs) (_ : lv_has ls 11 [(0, .ref (ad 86)), (3, .int (mI x3)), (4, .int (mI x4)), (5, .int (mI x5)), (6, .int (mI x6)), (7, .int (mI x7)), (8, .int (mI x8))]) (_ : g_X12_wheel_h103 F k81 n x3 x4 x5 x6 x7 x8 σ = some (r, σ')), mGi p l e 9 s m args below meth c D cy ad bs r σ' H locs (F0 m 103 ls []) := by
  obtain ⟨⟨hx, hb, -, -, -⟩, -⟩ := id X
  induction n with
  | zero =>
    intro x3 x4 x5 x6 x7 x8 σ H locs ls hw hl hf
    unfold g_X12_wheel_h103 at hf
    cases hf
  | succ n ih =>
    have hk103 : ∀ (x3 x4 x5 x6 x7 x8 : Int) (σ : mMem) (H : Heap) (locs : List Loc) (ls : Array Slot), mWd D cy ad bs true mN σ s.heap H locs → lv_has ls 11 [(0, .ref (ad 86)), (3, .int (mI x3)), (4, .int (mI x4)), (5, .int (mI x5)), (6, .int (mI x6)), (7, .int (mI x7)), (8, .int (mI x8))] → g_X12_wheel_h103 F k81 n x3 x4 x5 x6 x7 x8 σ = some (r, σ') → mGi p l e 9 s m args below meth c D cy ad bs r σ' H locs (F0 m 103 ls []) := fun x3 x4 x5 x6 x7 x8 σ H locs ls hw hl hf => ih hw hl hf
    intro x3 x4 x5 x6 x7 x8 σ H locs ls hw hl hf
    unfold g_X12_wheel_h103 at hf
    refine lv_iload hx hb dX12_wheel_103 (lv_at hl 6 rfl) ?_
    refine lv_bipush (v := mI 10) hx hb dX12_wheel_105 (by decide) ?_
    refine r_icmp_ge (tgt := 210) X dX12_wheel_107 (by decide) hf (fun hc hf => ?_) (fun hc hf => ?_)
    · refine lv_iload hx hb dX12_wheel_210 (lv_at hl 5 rfl) ?_
      refine lv_iload hx hb dX12_wheel_212 (lv_at hl 3 rfl) ?_
      refine r_icmp_lt (tgt := 220) X dX12_wheel_214 (by decide) hf (fun hc hf => ?_) (fun hc hf => ?_)
      · refine lv_iload hx hb dX12_wheel_220 (lv_at hl 5 rfl) ?_
        refine lv_istore (lv' := [(5, .int (mI x7)), (0, .ref (ad 86)), (3, .int (mI x3)), (4, .int (mI x4)), (6, .int (mI x6)), (7, .int (mI x7)), (8, .int (mI x8))]) hx hb dX12_wheel_222 hl (by decide) rfl (fun ls hl => ?_)
        refine lv_iload hx hb dX12_wheel_224 (lv_at hl 4 rfl) ?_
        refine lv_istore (lv' := [(4, .int (mI x6)), (5, .int (mI x7)), (0, .ref (ad 86)), (3, .int (mI x3)), (6, .int (mI x6)), (7, .int (mI x7)), (8, .int (mI x8))]) hx hb dX12_wheel_226 hl (by decide) rfl (fun ls hl => ?_)
        exact w_X12_wheel_b228 X hk81 hw (lv_sub hl [2, 3, 0, 1, 4] rfl) hf
      · refine lv_goto (tgt := 228) hx hb dX12_wheel_217 (by decide) ?_
        exact w_X12_wheel_b228 X hk81 hw (lv_sub hl [0, 1, 2, 3, 4] rfl) hf
    · refine lv_iconst (v := mI 0) hx hb dX12_wheel_110 rfl ?_
      refine lv_istore (lv' := [(9, .int (mI 0)), (0, .ref (ad 86)), (3, .int (mI x3)), (4, .int (mI x4)), (5, .int (mI x5)), (6, .int (mI x6)), (7, .int (mI x7)), (8, .int (mI x8))]) hx hb dX12_wheel_111 hl (by decide) rfl (fun ls hl => ?_)
      refine lv_iconst (v := mI 0) hx hb dX12_wheel_113 rfl ?_
      refine lv_istore (lv' := [(10, .int (mI 0)), (9, .int (mI 0)), (0, .ref (ad 86)), (3, .int (mI x3)), (4, .int (mI x4)), (5, .int (mI x5)), (6, .int (mI x6)), (7, .int (mI x7)), (8, .int (mI x8))]) hx hb dX12_wheel_114 hl (by decide) rfl (fun ls hl => ?_)
      exact w_X12_wheel_h116 X hk81 hk103 _ hw (lv_sub hl [2, 3, 4, 5, 6, 7, 8, 1, 0] rfl) hf
def g_X12_wheel_h81 (F : Nat)  : Nat → Int → Int → Int → Int → mMem → mRs
  | 0, _, _, _, _, _ => none
  | n + 1, x3, x4, x5, x6, σ => mob (g_X12_isAhead F x6 1 40 σ) (fun r309 σ310 => if mw r309 = 0 then (g_X12_wheel_b234 F x4 σ310) else (if mw x3 = 0 then (g_X12_wheel_b234 F x4 σ310) else (g_X12_wheel_h103 F (g_X12_wheel_h81 F n) F x3 x4 x5 x6 0 0 σ310)))
set_option maxRecDepth 100000 in
set_option maxHeartbeats 4000000 in
theorem w_X12_wheel_h81 {p : Program} {l : Launch} {e : Env} {s : State} {m : MethodId} {args : Array Value} {below : List Frame} {meth : Method} {c : Code} {D : va_G} {cy : Nat → ClassId} {ad : Nat → Nat} {bs : Nat} {F : Nat}  (X : mCx p m c cX12_wheel 11 s args RX12 meth D cy (some .int))  {r : Int} {σ' : mMem}   (n : Nat) : ∀ {x3 x4 x5 x6 : Int} {σ : mMem} {H : Heap} {locs : List Loc} {ls : Array Slot} (_ : mWd D cy ad bs true mN σ s.heap H locs) (_ : lv_has ls 11 [(0, .ref (ad 86)), (3, .int (mI x3)), (4, .int (mI x4)), (5, .int (mI x5)), (6, .int (mI x6))]) (_ : g_X12_wheel_h81 F n x3 x4 x5 x6 σ = some (r, σ')), mGi p l e 9 s m args below meth c D cy ad bs r σ' H locs (F0 m 81 ls []) := by
  obtain ⟨⟨hx, hb, -, -, -⟩, -⟩ := id X
  induction n with
  | zero =>
    intro x3 x4 x5 x6 σ H locs ls hw hl hf
    unfold g_X12_wheel_h81 at hf
    cases hf
  | succ n ih =>
    have hk81 : ∀ (x3 x4 x5 x6 : Int) (σ : mMem) (H : Heap) (locs : List Loc) (ls : Array Slot), mWd D cy ad bs true mN σ s.heap H locs → lv_has ls 11 [(0, .ref (ad 86)), (3, .int (mI x3)), (4, .int (mI x4)), (5, .int (mI x5)), (6, .int (mI x6))] → g_X12_wheel_h81 F n x3 x4 x5 x6 σ = some (r, σ') → mGi p l e 9 s m args below meth c D cy ad bs r σ' H locs (F0 m 81 ls []) := fun x3 x4 x5 x6 σ H locs ls hw hl hf => ih hw hl hf
    intro x3 x4 x5 x6 σ H locs ls hw hl hf
    unfold g_X12_wheel_h81 at hf
    refine lv_aload_n hx hb dX12_wheel_81 rfl (lv_at hl 0 rfl) ?_
    refine lv_iload hx hb dX12_wheel_82 (lv_at hl 4 rfl) ?_
    refine lv_iconst (v := mI 1) hx hb dX12_wheel_84 rfl ?_
    refine lv_bipush (v := mI 40) hx hb dX12_wheel_85 (by decide) ?_
    refine r_cvi (rest := []) [.int (mI x6), .int (mI 1), .int (mI 40)] X hw (fun ra σa h => c_X12_isAhead l D cy ad bs F x6 1 40 σ ra σa  h) sh_86 rfl (by decide) rfl km_X12_isAhead kv_X12_isAhead lm_X12_497 dX12_wheel_87 hl.1 rfl rfl (Nat.le_of_ble_eq_true rfl) ⟨by decide, by decide⟩ ⟨Nat.zero_le _, Nat.zero_le _⟩ hf (fun r309 σ310 _ hf H locs hw => ?_)
    refine r_if_eq (tgt := 234) X dX12_wheel_90 (by decide) hf (fun hc hf => ?_) (fun hc hf => ?_)
    · exact w_X12_wheel_b234 X hw (lv_sub hl [0, 2] rfl) hf
    · refine lv_iload_n hx hb dX12_wheel_93 rfl (lv_at hl 1 rfl) ?_
      refine r_if_eq (tgt := 234) X dX12_wheel_94 (by decide) hf (fun hc hf => ?_) (fun hc hf => ?_)
      · exact w_X12_wheel_b234 X hw (lv_sub hl [0, 2] rfl) hf
      · refine lv_iconst (v := mI 0) hx hb dX12_wheel_97 rfl ?_
        refine lv_istore (lv' := [(7, .int (mI 0)), (0, .ref (ad 86)), (3, .int (mI x3)), (4, .int (mI x4)), (5, .int (mI x5)), (6, .int (mI x6))]) hx hb dX12_wheel_98 hl (by decide) rfl (fun ls hl => ?_)
        refine lv_iconst (v := mI 0) hx hb dX12_wheel_100 rfl ?_
        refine lv_istore (lv' := [(8, .int (mI 0)), (7, .int (mI 0)), (0, .ref (ad 86)), (3, .int (mI x3)), (4, .int (mI x4)), (5, .int (mI x5)), (6, .int (mI x6))]) hx hb dX12_wheel_101 hl (by decide) rfl (fun ls hl => ?_)
        exact w_X12_wheel_h103 X hk81 _ hw (lv_sub hl [2, 3, 4, 5, 6, 1, 0] rfl) hf
def g_X12_wheel_b56 (F : Nat) (k24 : Int → Int → Int → Int → mMem → mRs) (x1 x2 x4 t0 t1 : Int) (σ : mMem) : mRs := mlet (mor t0 t1) (fun y411 => k24 x1 x2 y411 (x4 + 1) σ)
set_option maxRecDepth 100000 in
set_option maxHeartbeats 4000000 in
theorem w_X12_wheel_b56 {p : Program} {l : Launch} {e : Env} {s : State} {m : MethodId} {args : Array Value} {below : List Frame} {meth : Method} {c : Code} {D : va_G} {cy : Nat → ClassId} {ad : Nat → Nat} {bs : Nat} {F : Nat}  (X : mCx p m c cX12_wheel 11 s args RX12 meth D cy (some .int))  {r : Int} {σ' : mMem} {k24 : Int → Int → Int → Int → mMem → mRs} (hk24 : ∀ (x1 x2 x3 x4 : Int) (σ : mMem) (H : Heap) (locs : List Loc) (ls : Array Slot), mWd D cy ad bs true mN σ s.heap H locs → lv_has ls 11 [(0, .ref (ad 86)), (1, .int (mI x1)), (2, .int (mI x2)), (3, .int (mI x3)), (4, .int (mI x4))] → k24 x1 x2 x3 x4 σ = some (r, σ') → mGi p l e 9 s m args below meth c D cy ad bs r σ' H locs (F0 m 24 ls [])) {x1 x2 x4 t0 t1 : Int} {σ : mMem} {H : Heap} {locs : List Loc} {ls : Array Slot} (hw : mWd D cy ad bs true mN σ s.heap H locs) (hl : lv_has ls 11 [(0, .ref (ad 86)), (1, .int (mI x1)), (2, .int (mI x2)), (4, .int (mI x4))]) (hf : g_X12_wheel_b56 F k24 x1 x2 x4 t0 t1 σ = some (r, σ')) : mGi p l e 9 s m args below meth c D cy ad bs r σ' H locs (F0 m 56 ls [.int (mI t1), .int (mI t0)]) := by
  obtain ⟨⟨hx, hb, -, -, -⟩, -⟩ := id X
  unfold g_X12_wheel_b56 at hf
  refine r_ior X dX12_wheel_56 ?_
  refine r_leti hf (fun y411 hf => ?_)
  refine lv_istore_n (lv' := [(3, .int (mI y411)), (0, .ref (ad 86)), (1, .int (mI x1)), (2, .int (mI x2)), (4, .int (mI x4))]) hx hb dX12_wheel_57 rfl hl (by decide) rfl (fun ls hl => ?_)
  refine lv_iinc (v := mI (x4 + 1)) (lv' := [(4, .int (mI (x4 + 1))), (3, .int (mI y411)), (0, .ref (ad 86)), (1, .int (mI x1)), (2, .int (mI x2))]) hx hb dX12_wheel_58 hl (k := 4) rfl (mI_add _ _) (by decide) rfl (fun ls hl => ?_)
  refine lv_goto (tgt := 24) hx hb dX12_wheel_61 (by decide) ?_
  exact hk24 x1 x2 y411 (x4 + 1) σ _ _ _ hw (lv_sub hl [2, 3, 4, 1, 0] rfl) hf
def g_X12_wheel_h24 (F : Nat)  : Nat → Int → Int → Int → Int → mMem → mRs
  | 0, _, _, _, _, _ => none
  | n + 1, x1, x2, x3, x4, σ => if mw 10 ≤ mw x4 then (if ¬ mw x2 = 0 then (g_X12_wheel_h81 F F x3 (-1) 100000000 1 σ) else (some (x3, σ))) else (mob (g_X12_walks F x1 x4 σ) (fun r205 σ206 => mob (g_X12_isTrack F x4 σ206) (fun r207 σ208 => if mw r207 = 0 then (g_X12_wheel_b56 F (g_X12_wheel_h24 F n) x1 x2 x4 x3 0 σ208) else (g_X12_wheel_b56 F (g_X12_wheel_h24 F n) x1 x2 x4 x3 (mshl 1 x4) σ208))))
set_option maxRecDepth 100000 in
set_option maxHeartbeats 4000000 in
theorem w_X12_wheel_h24 {p : Program} {l : Launch} {e : Env} {s : State} {m : MethodId} {args : Array Value} {below : List Frame} {meth : Method} {c : Code} {D : va_G} {cy : Nat → ClassId} {ad : Nat → Nat} {bs : Nat} {F : Nat}  (X : mCx p m c cX12_wheel 11 s args RX12 meth D cy (some .int))  {r : Int} {σ' : mMem}   (n : Nat) : ∀ {x1 x2 x3 x4 : Int} {σ : mMem} {H : Heap} {locs : List Loc} {ls : Array Slot} (_ : mWd D cy ad bs true mN σ s.heap H locs) (_ : lv_has ls 11 [(0, .ref (ad 86)), (1, .int (mI x1)), (2, .int (mI x2)), (3, .int (mI x3)), (4, .int (mI x4))]) (_ : g_X12_wheel_h24 F n x1 x2 x3 x4 σ = some (r, σ')), mGi p l e 9 s m args below meth c D cy ad bs r σ' H locs (F0 m 24 ls []) := by
  obtain ⟨⟨hx, hb, -, -, -⟩, -⟩ := id X
  induction n with
  | zero =>
    intro x1 x2 x3 x4 σ H locs ls hw hl hf
    unfold g_X12_wheel_h24 at hf
    cases hf
  | succ n ih =>
    have hk24 : ∀ (x1 x2 x3 x4 : Int) (σ : mMem) (H : Heap) (locs : List Loc) (ls : Array Slot), mWd D cy ad bs true mN σ s.heap H locs → lv_has ls 11 [(0, .ref (ad 86)), (1, .int (mI x1)), (2, .int (mI x2)), (3, .int (mI x3)), (4, .int (mI x4))] → g_X12_wheel_h24 F n x1 x2 x3 x4 σ = some (r, σ') → mGi p l e 9 s m args below meth c D cy ad bs r σ' H locs (F0 m 24 ls []) := fun x1 x2 x3 x4 σ H locs ls hw hl hf => ih hw hl hf
    intro x1 x2 x3 x4 σ H locs ls hw hl hf
    unfold g_X12_wheel_h24 at hf
    refine lv_iload hx hb dX12_wheel_24 (lv_at hl 4 rfl) ?_
    refine lv_bipush (v := mI 10) hx hb dX12_wheel_26 (by decide) ?_
    refine r_icmp_ge (tgt := 64) X dX12_wheel_28 (by decide) hf (fun hc hf => ?_) (fun hc hf => ?_)
    · refine lv_iload_n hx hb dX12_wheel_64 rfl (lv_at hl 2 rfl) ?_
      refine r_if_ne (tgt := 70) X dX12_wheel_65 (by decide) hf (fun hc hf => ?_) (fun hc hf => ?_)
      · refine lv_iconst (v := mI (-1)) hx hb dX12_wheel_70 rfl ?_
        refine lv_istore (lv' := [(4, .int (mI (-1))), (0, .ref (ad 86)), (1, .int (mI x1)), (2, .int (mI x2)), (3, .int (mI x3))]) hx hb dX12_wheel_71 hl (by decide) rfl (fun ls hl => ?_)
        refine r_ldcw (z := 100000000) (by decide) X lc_X12_516 dX12_wheel_73 ?_
        refine lv_istore (lv' := [(5, .int (mI 100000000)), (4, .int (mI (-1))), (0, .ref (ad 86)), (1, .int (mI x1)), (2, .int (mI x2)), (3, .int (mI x3))]) hx hb dX12_wheel_76 hl (by decide) rfl (fun ls hl => ?_)
        refine lv_iconst (v := mI 1) hx hb dX12_wheel_78 rfl ?_
        refine lv_istore (lv' := [(6, .int (mI 1)), (5, .int (mI 100000000)), (4, .int (mI (-1))), (0, .ref (ad 86)), (1, .int (mI x1)), (2, .int (mI x2)), (3, .int (mI x3))]) hx hb dX12_wheel_79 hl (by decide) rfl (fun ls hl => ?_)
        exact w_X12_wheel_h81 X _ hw (lv_sub hl [3, 6, 2, 1, 0] rfl) hf
      · refine lv_iload_n hx hb dX12_wheel_68 rfl (lv_at hl 3 rfl) ?_
        exact r_iret X hw dX12_wheel_69 hf
    · refine lv_aload_n hx hb dX12_wheel_31 rfl (lv_at hl 0 rfl) ?_
      refine lv_iload_n hx hb dX12_wheel_32 rfl (lv_at hl 1 rfl) ?_
      refine lv_iload hx hb dX12_wheel_33 (lv_at hl 4 rfl) ?_
      refine r_cvv (rest := []) [.int (mI x1), .int (mI x4)] X hw (fun ra σa h => c_X12_walks l D cy ad bs F x1 x4 σ ra σa  h) sh_86 rfl (by decide) rfl km_X12_walks kv_X12_walks lm_X12_510 dX12_wheel_35 hl.1 rfl rfl (Nat.le_of_ble_eq_true rfl) ⟨by decide, by decide⟩ ⟨Nat.zero_le _, Nat.zero_le _⟩ hf (fun r205 σ206 _ hf H locs hw => ?_)
      refine lv_iload_n hx hb dX12_wheel_38 rfl (lv_at hl 3 rfl) ?_
      refine lv_aload_n hx hb dX12_wheel_39 rfl (lv_at hl 0 rfl) ?_
      refine lv_iload hx hb dX12_wheel_40 (lv_at hl 4 rfl) ?_
      refine r_cvi (rest := [.int (mI x3)]) [.int (mI x4)] X hw (fun ra σa h => c_X12_isTrack l D cy ad bs F x4 σ206 ra σa  h) sh_86 rfl (by decide) rfl km_X12_isTrack kv_X12_isTrack lm_X12_513 dX12_wheel_42 hl.1 rfl rfl (Nat.le_of_ble_eq_true rfl) ⟨by decide, by decide⟩ ⟨Nat.zero_le _, Nat.zero_le _⟩ hf (fun r207 σ208 _ hf H locs hw => ?_)
      refine r_if_eq (tgt := 55) X dX12_wheel_45 (by decide) hf (fun hc hf => ?_) (fun hc hf => ?_)
      · refine lv_iconst (v := mI 0) hx hb dX12_wheel_55 rfl ?_
        exact w_X12_wheel_b56 X hk24 hw (lv_sub hl [0, 1, 2, 4] rfl) hf
      · refine lv_iconst (v := mI 1) hx hb dX12_wheel_48 rfl ?_
        refine lv_iload hx hb dX12_wheel_49 (lv_at hl 4 rfl) ?_
        refine r_ishl X dX12_wheel_51 ?_
        refine lv_goto (tgt := 56) hx hb dX12_wheel_52 (by decide) ?_
        exact w_X12_wheel_b56 X hk24 hw (lv_sub hl [0, 1, 2, 4] rfl) hf
def g_X12_wheel (F : Nat) (x1 x2 : Int) (σ : mMem) : mRs := mob (g_X12_isBox F x1 σ) (fun r1 σ2 => if mw r1 = 0 then (g_X12_wheel_b17 F σ2) else (mob (g_X12_is F x2 0 1 σ2) (fun r3 σ4 => if ¬ mw r3 = 0 then (g_X12_wheel_h24 F F x1 x2 0 0 σ4) else (g_X12_wheel_b17 F σ4))))
set_option maxRecDepth 100000 in
set_option maxHeartbeats 4000000 in
theorem c_X12_wheel (l : Launch) (D : va_G) (cy : Nat → ClassId) (ad : Nat → Nat) (bs : Nat) (F : Nat)  (x1 x2 : Int) (σ : mMem) (r : Int) (σ' : mMem)  (hf : g_X12_wheel F x1 x2 σ = some (r, σ')) : mCi l D cy ad bs yX12_wheel cX12_wheel 11 (some .int) 9 [.ref (ad 86), .int (mI x1), .int (mI x2)] σ r σ' := by
  refine mCi.of (lv := [(0, .ref (ad 86)), (1, .int (mI x1)), (2, .int (mI x2))]) km_X12_wheel.2.2.2.2.2 (Nat.le_of_ble_eq_true rfl) rfl (fun p e s m args below meth c H locs ls X hw hl => ?_)
  obtain ⟨⟨hx, hb, -, -, -⟩, -⟩ := id X
  unfold g_X12_wheel at hf
  refine lv_aload_n hx hb dX12_wheel_0 rfl (lv_at hl 0 rfl) ?_
  refine lv_iload_n hx hb dX12_wheel_1 rfl (lv_at hl 1 rfl) ?_
  refine r_cvi (rest := []) [.int (mI x1)] X hw (fun ra σa h => c_X12_isBox l D cy ad bs F x1 σ ra σa  h) sh_86 rfl (by decide) rfl km_X12_isBox kv_X12_isBox lm_X12_492 dX12_wheel_2 hl.1 rfl rfl (Nat.le_of_ble_eq_true rfl) ⟨by decide, by decide⟩ ⟨Nat.zero_le _, Nat.zero_le _⟩ hf (fun r1 σ2 _ hf H locs hw => ?_)
  refine r_if_eq (tgt := 17) X dX12_wheel_5 (by decide) hf (fun hc hf => ?_) (fun hc hf => ?_)
  · exact w_X12_wheel_b17 X hw (lv_sub hl [0] rfl) hf
  · refine lv_iload_n hx hb dX12_wheel_8 rfl (lv_at hl 2 rfl) ?_
    refine lv_iconst (v := mI 0) hx hb dX12_wheel_9 rfl ?_
    refine lv_iconst (v := mI 1) hx hb dX12_wheel_10 rfl ?_
    refine r_csi (rest := []) [.int (mI x2), .int (mI 0), .int (mI 1)] X hw (fun ra σa h => c_X12_is l D cy ad bs F x2 0 1 σ2 ra σa  h) km_X12_is ks_X12_is lm_X12_318 dX12_wheel_11 hl.1 rfl rfl (Nat.le_of_ble_eq_true rfl) ⟨by decide, by decide⟩ ⟨Nat.zero_le _, Nat.zero_le _⟩ hf (fun r3 σ4 _ hf H locs hw => ?_)
    refine r_if_ne (tgt := 19) X dX12_wheel_14 (by decide) hf (fun hc hf => ?_) (fun hc hf => ?_)
    · refine lv_iconst (v := mI 0) hx hb dX12_wheel_19 rfl ?_
      refine lv_istore_n (lv' := [(3, .int (mI 0)), (0, .ref (ad 86)), (1, .int (mI x1)), (2, .int (mI x2))]) hx hb dX12_wheel_20 rfl hl (by decide) rfl (fun ls hl => ?_)
      refine lv_iconst (v := mI 0) hx hb dX12_wheel_21 rfl ?_
      refine lv_istore (lv' := [(4, .int (mI 0)), (3, .int (mI 0)), (0, .ref (ad 86)), (1, .int (mI x1)), (2, .int (mI x2))]) hx hb dX12_wheel_22 hl (by decide) rfl (fun ls hl => ?_)
      exact w_X12_wheel_h24 X _ hw (lv_sub hl [2, 3, 4, 1, 0] rfl) hf
    · exact w_X12_wheel_b17 X hw (lv_sub hl [0] rfl) hf
def g_X12_steps_h25 (F : Nat)  : Nat → Int → Int → Int → mMem → mRs
  | 0, _, _, _, _ => none
  | n + 1, x1, x2, x3, σ => if mw x1 ≤ mw x3 then (some (x2, σ)) else (mob (g_X12_passes F 0 x3 σ) (fun r107 σ108 => mob (g_X12_bits F (σ108 86 63) σ108) (fun r109 σ110 => mlet (x2 + r109) (fun y111 => (g_X12_steps_h25 F n) x1 y111 (x3 + 1) σ110))))
set_option maxRecDepth 100000 in
set_option maxHeartbeats 4000000 in
theorem w_X12_steps_h25 {p : Program} {l : Launch} {e : Env} {s : State} {m : MethodId} {args : Array Value} {below : List Frame} {meth : Method} {c : Code} {D : va_G} {cy : Nat → ClassId} {ad : Nat → Nat} {bs : Nat} {F : Nat}  (X : mCx p m c cX12_steps 4 s args RX12 meth D cy (some .int))  {r : Int} {σ' : mMem}   (n : Nat) : ∀ {x1 x2 x3 : Int} {σ : mMem} {H : Heap} {locs : List Loc} {ls : Array Slot} (_ : mWd D cy ad bs true mN σ s.heap H locs) (_ : lv_has ls 4 [(0, .ref (ad 86)), (1, .int (mI x1)), (2, .int (mI x2)), (3, .int (mI x3))]) (_ : g_X12_steps_h25 F n x1 x2 x3 σ = some (r, σ')), mGi p l e 8 s m args below meth c D cy ad bs r σ' H locs (F0 m 25 ls []) := by
  obtain ⟨⟨hx, hb, -, -, -⟩, -⟩ := id X
  induction n with
  | zero =>
    intro x1 x2 x3 σ H locs ls hw hl hf
    unfold g_X12_steps_h25 at hf
    cases hf
  | succ n ih =>
    have hk25 : ∀ (x1 x2 x3 : Int) (σ : mMem) (H : Heap) (locs : List Loc) (ls : Array Slot), mWd D cy ad bs true mN σ s.heap H locs → lv_has ls 4 [(0, .ref (ad 86)), (1, .int (mI x1)), (2, .int (mI x2)), (3, .int (mI x3))] → g_X12_steps_h25 F n x1 x2 x3 σ = some (r, σ') → mGi p l e 8 s m args below meth c D cy ad bs r σ' H locs (F0 m 25 ls []) := fun x1 x2 x3 σ H locs ls hw hl hf => ih hw hl hf
    intro x1 x2 x3 σ H locs ls hw hl hf
    unfold g_X12_steps_h25 at hf
    refine lv_iload_n hx hb dX12_steps_25 rfl (lv_at hl 3 rfl) ?_
    refine lv_iload_n hx hb dX12_steps_26 rfl (lv_at hl 1 rfl) ?_
    refine r_icmp_ge (tgt := 52) X dX12_steps_27 (by decide) hf (fun hc hf => ?_) (fun hc hf => ?_)
    · refine lv_iload_n hx hb dX12_steps_52 rfl (lv_at hl 2 rfl) ?_
      exact r_iret X hw dX12_steps_53 hf
    · refine lv_aload_n hx hb dX12_steps_30 rfl (lv_at hl 0 rfl) ?_
      refine lv_iconst (v := mI 0) hx hb dX12_steps_31 rfl ?_
      refine lv_iload_n hx hb dX12_steps_32 rfl (lv_at hl 3 rfl) ?_
      refine r_cvv (rest := []) [.int (mI 0), .int (mI x3)] X hw (fun ra σa h => c_X12_passes l D cy ad bs F 0 x3 σ ra σa  h) sh_86 rfl (by decide) rfl km_X12_passes kv_X12_passes lm_X12_500 dX12_steps_33 hl.1 rfl rfl (Nat.le_of_ble_eq_true rfl) ⟨by decide, by decide⟩ ⟨Nat.zero_le _, Nat.zero_le _⟩ hf (fun r107 σ108 _ hf H locs hw => ?_)
      refine lv_iload_n hx hb dX12_steps_36 rfl (lv_at hl 2 rfl) ?_
      refine lv_aload_n hx hb dX12_steps_37 rfl (lv_at hl 0 rfl) ?_
      refine r_geti X hw sh_86 fd_12_63 rfl lf_X12_204 dX12_steps_38 ?_
      refine r_csi (rest := [.int (mI x2)]) [.int (mI (σ108 86 63))] X hw (fun ra σa h => c_X12_bits l D cy ad bs F (σ108 86 63) σ108 ra σa  h) km_X12_bits ks_X12_bits lm_X12_520 dX12_steps_41 hl.1 rfl rfl (Nat.le_of_ble_eq_true rfl) ⟨by decide, by decide⟩ ⟨Nat.zero_le _, Nat.zero_le _⟩ hf (fun r109 σ110 _ hf H locs hw => ?_)
      refine r_iadd X dX12_steps_44 ?_
      refine r_leti hf (fun y111 hf => ?_)
      refine lv_istore_n (lv' := [(2, .int (mI y111)), (0, .ref (ad 86)), (1, .int (mI x1)), (3, .int (mI x3))]) hx hb dX12_steps_45 rfl hl (by decide) rfl (fun ls hl => ?_)
      refine lv_iinc (v := mI (x3 + 1)) (lv' := [(3, .int (mI (x3 + 1))), (2, .int (mI y111)), (0, .ref (ad 86)), (1, .int (mI x1))]) hx hb dX12_steps_46 hl (k := 3) rfl (mI_add _ _) (by decide) rfl (fun ls hl => ?_)
      refine lv_goto (tgt := 25) hx hb dX12_steps_49 (by decide) ?_
      exact hk25 x1 y111 (x3 + 1) σ110 _ _ _ hw (lv_sub hl [2, 3, 1, 0] rfl) hf
def g_X12_steps (F : Nat) (x1 : Int) (σ : mMem) : mRs := mob (g_X12_isAhead F x1 1 100 σ) (fun r1 σ2 => if ¬ mw r1 = 0 then (mob (g_X12_keeps F σ2) (fun r3 σ4 => g_X12_steps_h25 F F x1 0 0 σ4)) else (mob (g_X12_refuses F 2 σ2) (fun r5 σ6 => some (r5, σ6))))
set_option maxRecDepth 100000 in
set_option maxHeartbeats 4000000 in
theorem c_X12_steps (l : Launch) (D : va_G) (cy : Nat → ClassId) (ad : Nat → Nat) (bs : Nat) (F : Nat)  (x1 : Int) (σ : mMem) (r : Int) (σ' : mMem)  (hf : g_X12_steps F x1 σ = some (r, σ')) : mCi l D cy ad bs yX12_steps cX12_steps 4 (some .int) 8 [.ref (ad 86), .int (mI x1)] σ r σ' := by
  refine mCi.of (lv := [(0, .ref (ad 86)), (1, .int (mI x1))]) km_X12_steps.2.2.2.2.2 (Nat.le_of_ble_eq_true rfl) rfl (fun p e s m args below meth c H locs ls X hw hl => ?_)
  obtain ⟨⟨hx, hb, -, -, -⟩, -⟩ := id X
  unfold g_X12_steps at hf
  refine lv_aload_n hx hb dX12_steps_0 rfl (lv_at hl 0 rfl) ?_
  refine lv_iload_n hx hb dX12_steps_1 rfl (lv_at hl 1 rfl) ?_
  refine lv_iconst (v := mI 1) hx hb dX12_steps_2 rfl ?_
  refine lv_bipush (v := mI 100) hx hb dX12_steps_3 (by decide) ?_
  refine r_cvi (rest := []) [.int (mI x1), .int (mI 1), .int (mI 100)] X hw (fun ra σa h => c_X12_isAhead l D cy ad bs F x1 1 100 σ ra σa  h) sh_86 rfl (by decide) rfl km_X12_isAhead kv_X12_isAhead lm_X12_497 dX12_steps_5 hl.1 rfl rfl (Nat.le_of_ble_eq_true rfl) ⟨by decide, by decide⟩ ⟨Nat.zero_le _, Nat.zero_le _⟩ hf (fun r1 σ2 _ hf H locs hw => ?_)
  refine r_if_ne (tgt := 17) X dX12_steps_8 (by decide) hf (fun hc hf => ?_) (fun hc hf => ?_)
  · refine lv_aload_n hx hb dX12_steps_17 rfl (lv_at hl 0 rfl) ?_
    refine r_cvv (rest := []) [] X hw (fun ra σa h => c_X12_keeps l D cy ad bs F σ2 ra σa  h) sh_86 rfl (by decide) rfl km_X12_keeps kv_X12_keeps lm_X12_517 dX12_steps_18 hl.1 rfl rfl (Nat.le_of_ble_eq_true rfl) ⟨by decide, by decide⟩ ⟨Nat.zero_le _, Nat.zero_le _⟩ hf (fun r3 σ4 _ hf H locs hw => ?_)
    refine lv_iconst (v := mI 0) hx hb dX12_steps_21 rfl ?_
    refine lv_istore_n (lv' := [(2, .int (mI 0)), (0, .ref (ad 86)), (1, .int (mI x1))]) hx hb dX12_steps_22 rfl hl (by decide) rfl (fun ls hl => ?_)
    refine lv_iconst (v := mI 0) hx hb dX12_steps_23 rfl ?_
    refine lv_istore_n (lv' := [(3, .int (mI 0)), (2, .int (mI 0)), (0, .ref (ad 86)), (1, .int (mI x1))]) hx hb dX12_steps_24 rfl hl (by decide) rfl (fun ls hl => ?_)
    exact w_X12_steps_h25 X _ hw (lv_sub hl [2, 3, 1, 0] rfl) hf
  · refine lv_aload_n hx hb dX12_steps_11 rfl (lv_at hl 0 rfl) ?_
    refine lv_iconst (v := mI 2) hx hb dX12_steps_12 rfl ?_
    refine r_cvi (rest := []) [.int (mI 2)] X hw (fun ra σa h => c_X12_refuses l D cy ad bs F 2 σ2 ra σa  h) sh_86 rfl (by decide) rfl km_X12_refuses kv_X12_refuses lm_X12_235 dX12_steps_13 hl.1 rfl rfl (Nat.le_of_ble_eq_true rfl) ⟨by decide, by decide⟩ ⟨Nat.zero_le _, Nat.zero_le _⟩ hf (fun r5 σ6 _ hf H locs hw => ?_)
    exact r_iret X hw dX12_steps_16 hf
def g_X12_draw (F : Nat) (x1 : Int) (σ : mMem) : mRs := if mwl 2147483648 = 0 then none else (mlm (mup σ 86 54 ((mwl ((1103515245 * (σ 86 54)) + 12345)).tmod (mwl 2147483648))) (fun σ1 => if mwl 64 = 0 then none else (if mwl (mw x1) = 0 then none else (some ((mwl ((mwl (σ1 86 54)).tdiv (mwl 64))).tmod (mwl (mw x1)), σ1)))))
set_option maxRecDepth 100000 in
set_option maxHeartbeats 4000000 in
theorem c_X12_draw (l : Launch) (D : va_G) (cy : Nat → ClassId) (ad : Nat → Nat) (bs : Nat) (F : Nat)  (x1 : Int) (σ : mMem) (r : Int) (σ' : mMem)  (hf : g_X12_draw F x1 σ = some (r, σ')) : mCi l D cy ad bs yX12_draw cX12_draw 2 (some .int) 1 [.ref (ad 86), .int (mI x1)] σ r σ' := by
  refine mCi.of (lv := [(0, .ref (ad 86)), (1, .int (mI x1))]) km_X12_draw.2.2.2.2.2 (Nat.le_of_ble_eq_true rfl) rfl (fun p e s m args below meth c H locs ls X hw hl => ?_)
  obtain ⟨⟨hx, hb, -, -, -⟩, -⟩ := id X
  unfold g_X12_draw at hf
  refine lv_aload_n hx hb dX12_draw_0 rfl (lv_at hl 0 rfl) ?_
  refine r_ldc2 (z := 1103515245) (by decide) X lc_X12_523 dX12_draw_1 ?_
  refine lv_aload_n hx hb dX12_draw_4 rfl (lv_at hl 0 rfl) ?_
  refine r_getl X hw sh_86 fd_12_54 rfl lf_X12_177 dX12_draw_5 ?_
  refine r_lmul X dX12_draw_8 ?_
  refine r_ldc2 (z := 12345) (by decide) X lc_X12_525 dX12_draw_9 ?_
  refine r_ladd X dX12_draw_12 ?_
  refine r_ldc2 (z := 2147483648) (by decide) X lc_X12_527 dX12_draw_13 ?_
  refine r_lrem X dX12_draw_16 hf (fun hf => ?_)
  refine r_putl X hw sh_86 fd_12_54 fp_12_54 rfl rfl lf_X12_177 dX12_draw_17 (fun H locs hw => ?_)
  refine r_mem hf hw (fun σ1 hw hf => ?_)
  refine lv_aload_n hx hb dX12_draw_20 rfl (lv_at hl 0 rfl) ?_
  refine r_getl X hw sh_86 fd_12_54 rfl lf_X12_177 dX12_draw_21 ?_
  refine r_ldc2 (z := 64) (by decide) X lc_X12_529 dX12_draw_24 ?_
  refine r_ldiv X dX12_draw_27 hf (fun hf => ?_)
  refine lv_iload_n hx hb dX12_draw_28 rfl (lv_at hl 1 rfl) ?_
  refine r_i2l X dX12_draw_29 ?_
  refine r_lrem X dX12_draw_30 hf (fun hf => ?_)
  refine r_l2i X dX12_draw_31 ?_
  exact r_iret X hw dX12_draw_32 hf
def g_X12_chance_b92 (F : Nat) (k25 : Int → Int → Int → mMem → mRs) (x1 x2 x3 : Int) (σ : mMem) : mRs := mob (g_X12_passes F 0 x3 σ) (fun r214 σ215 => k25 x1 x2 (x3 + 1) σ215)
set_option maxRecDepth 100000 in
set_option maxHeartbeats 4000000 in
theorem w_X12_chance_b92 {p : Program} {l : Launch} {e : Env} {s : State} {m : MethodId} {args : Array Value} {below : List Frame} {meth : Method} {c : Code} {D : va_G} {cy : Nat → ClassId} {ad : Nat → Nat} {bs : Nat} {F : Nat}  (X : mCx p m c cX12_chance 5 s args RX12 meth D cy (some .int))  {r : Int} {σ' : mMem} {k25 : Int → Int → Int → mMem → mRs} (hk25 : ∀ (x1 x2 x3 : Int) (σ : mMem) (H : Heap) (locs : List Loc) (ls : Array Slot), mWd D cy ad bs true mN σ s.heap H locs → lv_has ls 5 [(0, .ref (ad 86)), (1, .int (mI x1)), (2, .int (mI x2)), (3, .int (mI x3))] → k25 x1 x2 x3 σ = some (r, σ') → mGi p l e 8 s m args below meth c D cy ad bs r σ' H locs (F0 m 25 ls [])) {x1 x2 x3 : Int} {σ : mMem} {H : Heap} {locs : List Loc} {ls : Array Slot} (hw : mWd D cy ad bs true mN σ s.heap H locs) (hl : lv_has ls 5 [(0, .ref (ad 86)), (1, .int (mI x1)), (2, .int (mI x2)), (3, .int (mI x3))]) (hf : g_X12_chance_b92 F k25 x1 x2 x3 σ = some (r, σ')) : mGi p l e 8 s m args below meth c D cy ad bs r σ' H locs (F0 m 92 ls []) := by
  obtain ⟨⟨hx, hb, -, -, -⟩, -⟩ := id X
  unfold g_X12_chance_b92 at hf
  refine lv_aload_n hx hb dX12_chance_92 rfl (lv_at hl 0 rfl) ?_
  refine lv_iconst (v := mI 0) hx hb dX12_chance_93 rfl ?_
  refine lv_iload_n hx hb dX12_chance_94 rfl (lv_at hl 3 rfl) ?_
  refine r_cvv (rest := []) [.int (mI 0), .int (mI x3)] X hw (fun ra σa h => c_X12_passes l D cy ad bs F 0 x3 σ ra σa  h) sh_86 rfl (by decide) rfl km_X12_passes kv_X12_passes lm_X12_500 dX12_chance_95 hl.1 rfl rfl (Nat.le_of_ble_eq_true rfl) ⟨by decide, by decide⟩ ⟨Nat.zero_le _, Nat.zero_le _⟩ hf (fun r214 σ215 _ hf H locs hw => ?_)
  refine lv_iinc (v := mI (x3 + 1)) (lv' := [(3, .int (mI (x3 + 1))), (0, .ref (ad 86)), (1, .int (mI x1)), (2, .int (mI x2))]) hx hb dX12_chance_98 hl (k := 3) rfl (mI_add _ _) (by decide) rfl (fun ls hl => ?_)
  refine lv_goto (tgt := 25) hx hb dX12_chance_101 (by decide) ?_
  exact hk25 x1 x2 (x3 + 1) σ215 _ _ _ hw (lv_sub hl [1, 2, 3, 0] rfl) hf
def g_X12_chance_h25 (F : Nat)  : Nat → Int → Int → Int → mMem → mRs
  | 0, _, _, _, _ => none
  | n + 1, x1, x2, x3, σ => if mw x1 ≤ mw x3 then (some (x2, σ)) else (mob (g_X12_draw F 100 σ) (fun r107 σ108 => mob (g_X12_toldOf F 2 σ108) (fun r109 σ110 => if mw r109 ≤ mw r107 then (g_X12_chance_b92 F (g_X12_chance_h25 F n) x1 x2 x3 σ110) else (if 0 ≤ mw (σ110 86 13) ∧ mw (σ110 86 13) < (2 : Int) then if mw (σ110 91 (mw (σ110 86 13)).toNat) ≤ 0 then (g_X12_chance_b92 F (g_X12_chance_h25 F n) x1 x2 x3 σ110) else (if 0 ≤ mw (σ110 86 13) ∧ mw (σ110 86 13) < (2 : Int) then mob (g_X12_draw F (σ110 91 (mw (σ110 86 13)).toNat) σ110) (fun r111 σ112 => if 0 ≤ mw r111 ∧ mw r111 < (132 : Int) then if mw 4 = 0 then none else (if 0 ≤ mw r111 ∧ mw r111 < (132 : Int) then mlm (mup σ112 113 (mw r111).toNat ((mw ((σ112 113 (mw r111).toNat) + 2)).tmod (mw 4))) (fun σ113 => g_X12_chance_b92 F (g_X12_chance_h25 F n) x1 (x2 + 1) x3 σ113) else none) else none) else none) else none))))
set_option maxRecDepth 100000 in
set_option maxHeartbeats 4000000 in
theorem w_X12_chance_h25 {p : Program} {l : Launch} {e : Env} {s : State} {m : MethodId} {args : Array Value} {below : List Frame} {meth : Method} {c : Code} {D : va_G} {cy : Nat → ClassId} {ad : Nat → Nat} {bs : Nat} {F : Nat}  (X : mCx p m c cX12_chance 5 s args RX12 meth D cy (some .int))  {r : Int} {σ' : mMem}   (n : Nat) : ∀ {x1 x2 x3 : Int} {σ : mMem} {H : Heap} {locs : List Loc} {ls : Array Slot} (_ : mWd D cy ad bs true mN σ s.heap H locs) (_ : lv_has ls 5 [(0, .ref (ad 86)), (1, .int (mI x1)), (2, .int (mI x2)), (3, .int (mI x3))]) (_ : g_X12_chance_h25 F n x1 x2 x3 σ = some (r, σ')), mGi p l e 8 s m args below meth c D cy ad bs r σ' H locs (F0 m 25 ls []) := by
  obtain ⟨⟨hx, hb, -, -, -⟩, -⟩ := id X
  induction n with
  | zero =>
    intro x1 x2 x3 σ H locs ls hw hl hf
    unfold g_X12_chance_h25 at hf
    cases hf
  | succ n ih =>
    have hk25 : ∀ (x1 x2 x3 : Int) (σ : mMem) (H : Heap) (locs : List Loc) (ls : Array Slot), mWd D cy ad bs true mN σ s.heap H locs → lv_has ls 5 [(0, .ref (ad 86)), (1, .int (mI x1)), (2, .int (mI x2)), (3, .int (mI x3))] → g_X12_chance_h25 F n x1 x2 x3 σ = some (r, σ') → mGi p l e 8 s m args below meth c D cy ad bs r σ' H locs (F0 m 25 ls []) := fun x1 x2 x3 σ H locs ls hw hl hf => ih hw hl hf
    intro x1 x2 x3 σ H locs ls hw hl hf
    unfold g_X12_chance_h25 at hf
    refine lv_iload_n hx hb dX12_chance_25 rfl (lv_at hl 3 rfl) ?_
    refine lv_iload_n hx hb dX12_chance_26 rfl (lv_at hl 1 rfl) ?_
    refine r_icmp_ge (tgt := 104) X dX12_chance_27 (by decide) hf (fun hc hf => ?_) (fun hc hf => ?_)
    · refine lv_iload_n hx hb dX12_chance_104 rfl (lv_at hl 2 rfl) ?_
      exact r_iret X hw dX12_chance_105 hf
    · refine lv_aload_n hx hb dX12_chance_30 rfl (lv_at hl 0 rfl) ?_
      refine lv_bipush (v := mI 100) hx hb dX12_chance_31 (by decide) ?_
      refine r_cvi (rest := []) [.int (mI 100)] X hw (fun ra σa h => c_X12_draw l D cy ad bs F 100 σ ra σa  h) sh_86 rfl (by decide) rfl km_X12_draw kv_X12_draw lm_X12_531 dX12_chance_33 hl.1 rfl rfl (Nat.le_of_ble_eq_true rfl) ⟨by decide, by decide⟩ ⟨Nat.zero_le _, Nat.zero_le _⟩ hf (fun r107 σ108 _ hf H locs hw => ?_)
      refine lv_aload_n hx hb dX12_chance_36 rfl (lv_at hl 0 rfl) ?_
      refine lv_iconst (v := mI 2) hx hb dX12_chance_37 rfl ?_
      refine r_cvi (rest := [.int (mI r107)]) [.int (mI 2)] X hw (fun ra σa h => c_X12_toldOf l D cy ad bs F 2 σ108 ra σa  h) sh_86 rfl (by decide) rfl km_X12_toldOf kv_X12_toldOf lm_X12_415 dX12_chance_38 hl.1 rfl rfl (Nat.le_of_ble_eq_true rfl) ⟨by decide, by decide⟩ ⟨Nat.zero_le _, Nat.zero_le _⟩ hf (fun r109 σ110 _ hf H locs hw => ?_)
      refine r_icmp_ge (tgt := 92) X dX12_chance_41 (by decide) hf (fun hc hf => ?_) (fun hc hf => ?_)
      · exact w_X12_chance_b92 X hk25 hw (lv_sub hl [0, 1, 2, 3] rfl) hf
      · refine lv_aload_n hx hb dX12_chance_44 rfl (lv_at hl 0 rfl) ?_
        refine r_getr 91 X hw sh_86 fd_12_17 rfl rfl lf_X12_63 dX12_chance_45 ?_
        refine lv_aload_n hx hb dX12_chance_48 rfl (lv_at hl 0 rfl) ?_
        refine r_geti X hw sh_86 fd_12_13 rfl lf_X12_51 dX12_chance_49 ?_
        refine r_iald (2 : Int) rfl X hw sh_91 dX12_chance_52 hf (fun hf => ?_)
        refine r_if_le (tgt := 92) X dX12_chance_53 (by decide) hf (fun hc hf => ?_) (fun hc hf => ?_)
        · exact w_X12_chance_b92 X hk25 hw (lv_sub hl [0, 1, 2, 3] rfl) hf
        · refine lv_aload_n hx hb dX12_chance_56 rfl (lv_at hl 0 rfl) ?_
          refine lv_aload_n hx hb dX12_chance_57 rfl (lv_at hl 0 rfl) ?_
          refine r_getr 91 X hw sh_86 fd_12_17 rfl rfl lf_X12_63 dX12_chance_58 ?_
          refine lv_aload_n hx hb dX12_chance_61 rfl (lv_at hl 0 rfl) ?_
          refine r_geti X hw sh_86 fd_12_13 rfl lf_X12_51 dX12_chance_62 ?_
          refine r_iald (2 : Int) rfl X hw sh_91 dX12_chance_65 hf (fun hf => ?_)
          refine r_cvi (rest := []) [.int (mI (σ110 91 (mw (σ110 86 13)).toNat))] X hw (fun ra σa h => c_X12_draw l D cy ad bs F (σ110 91 (mw (σ110 86 13)).toNat) σ110 ra σa  h) sh_86 rfl (by decide) rfl km_X12_draw kv_X12_draw lm_X12_531 dX12_chance_66 hl.1 rfl rfl (Nat.le_of_ble_eq_true rfl) ⟨by decide, by decide⟩ ⟨Nat.zero_le _, Nat.zero_le _⟩ hf (fun r111 σ112 _ hf H locs hw => ?_)
          refine lv_istore (lv' := [(4, .int (mI r111)), (0, .ref (ad 86)), (1, .int (mI x1)), (2, .int (mI x2)), (3, .int (mI x3))]) hx hb dX12_chance_69 hl (by decide) rfl (fun ls hl => ?_)
          refine lv_aload_n hx hb dX12_chance_71 rfl (lv_at hl 1 rfl) ?_
          refine r_getr 113 X hw sh_86 fd_12_46 rfl rfl lf_X12_153 dX12_chance_72 ?_
          refine lv_iload hx hb dX12_chance_75 (lv_at hl 0 rfl) ?_
          refine lv_aload_n hx hb dX12_chance_77 rfl (lv_at hl 1 rfl) ?_
          refine r_getr 113 X hw sh_86 fd_12_46 rfl rfl lf_X12_153 dX12_chance_78 ?_
          refine lv_iload hx hb dX12_chance_81 (lv_at hl 0 rfl) ?_
          refine r_iald (132 : Int) rfl X hw sh_113 dX12_chance_83 hf (fun hf => ?_)
          refine lv_iconst (v := mI 2) hx hb dX12_chance_84 rfl ?_
          refine r_iadd X dX12_chance_85 ?_
          refine lv_iconst (v := mI 4) hx hb dX12_chance_86 rfl ?_
          refine r_irem X dX12_chance_87 hf (fun hf => ?_)
          refine r_iast (132 : Int) rfl X hw sh_113 dX12_chance_88 hf (fun hf H locs hw => ?_)
          refine r_mem hf hw (fun σ113 hw hf => ?_)
          refine lv_iinc (v := mI (x2 + 1)) (lv' := [(2, .int (mI (x2 + 1))), (4, .int (mI r111)), (0, .ref (ad 86)), (1, .int (mI x1)), (3, .int (mI x3))]) hx hb dX12_chance_89 hl (k := 3) rfl (mI_add _ _) (by decide) rfl (fun ls hl => ?_)
          exact w_X12_chance_b92 X hk25 hw (lv_sub hl [2, 3, 0, 4] rfl) hf
def g_X12_chance (F : Nat) (x1 : Int) (σ : mMem) : mRs := mob (g_X12_isAhead F x1 1 100 σ) (fun r1 σ2 => if ¬ mw r1 = 0 then (mob (g_X12_keeps F σ2) (fun r3 σ4 => g_X12_chance_h25 F F x1 0 0 σ4)) else (mob (g_X12_refuses F 2 σ2) (fun r5 σ6 => some (r5, σ6))))
set_option maxRecDepth 100000 in
set_option maxHeartbeats 4000000 in
theorem c_X12_chance (l : Launch) (D : va_G) (cy : Nat → ClassId) (ad : Nat → Nat) (bs : Nat) (F : Nat)  (x1 : Int) (σ : mMem) (r : Int) (σ' : mMem)  (hf : g_X12_chance F x1 σ = some (r, σ')) : mCi l D cy ad bs yX12_chance cX12_chance 5 (some .int) 8 [.ref (ad 86), .int (mI x1)] σ r σ' := by
  refine mCi.of (lv := [(0, .ref (ad 86)), (1, .int (mI x1))]) km_X12_chance.2.2.2.2.2 (Nat.le_of_ble_eq_true rfl) rfl (fun p e s m args below meth c H locs ls X hw hl => ?_)
  obtain ⟨⟨hx, hb, -, -, -⟩, -⟩ := id X
  unfold g_X12_chance at hf
  refine lv_aload_n hx hb dX12_chance_0 rfl (lv_at hl 0 rfl) ?_
  refine lv_iload_n hx hb dX12_chance_1 rfl (lv_at hl 1 rfl) ?_
  refine lv_iconst (v := mI 1) hx hb dX12_chance_2 rfl ?_
  refine lv_bipush (v := mI 100) hx hb dX12_chance_3 (by decide) ?_
  refine r_cvi (rest := []) [.int (mI x1), .int (mI 1), .int (mI 100)] X hw (fun ra σa h => c_X12_isAhead l D cy ad bs F x1 1 100 σ ra σa  h) sh_86 rfl (by decide) rfl km_X12_isAhead kv_X12_isAhead lm_X12_497 dX12_chance_5 hl.1 rfl rfl (Nat.le_of_ble_eq_true rfl) ⟨by decide, by decide⟩ ⟨Nat.zero_le _, Nat.zero_le _⟩ hf (fun r1 σ2 _ hf H locs hw => ?_)
  refine r_if_ne (tgt := 17) X dX12_chance_8 (by decide) hf (fun hc hf => ?_) (fun hc hf => ?_)
  · refine lv_aload_n hx hb dX12_chance_17 rfl (lv_at hl 0 rfl) ?_
    refine r_cvv (rest := []) [] X hw (fun ra σa h => c_X12_keeps l D cy ad bs F σ2 ra σa  h) sh_86 rfl (by decide) rfl km_X12_keeps kv_X12_keeps lm_X12_517 dX12_chance_18 hl.1 rfl rfl (Nat.le_of_ble_eq_true rfl) ⟨by decide, by decide⟩ ⟨Nat.zero_le _, Nat.zero_le _⟩ hf (fun r3 σ4 _ hf H locs hw => ?_)
    refine lv_iconst (v := mI 0) hx hb dX12_chance_21 rfl ?_
    refine lv_istore_n (lv' := [(2, .int (mI 0)), (0, .ref (ad 86)), (1, .int (mI x1))]) hx hb dX12_chance_22 rfl hl (by decide) rfl (fun ls hl => ?_)
    refine lv_iconst (v := mI 0) hx hb dX12_chance_23 rfl ?_
    refine lv_istore_n (lv' := [(3, .int (mI 0)), (2, .int (mI 0)), (0, .ref (ad 86)), (1, .int (mI x1))]) hx hb dX12_chance_24 rfl hl (by decide) rfl (fun ls hl => ?_)
    exact w_X12_chance_h25 X _ hw (lv_sub hl [2, 3, 1, 0] rfl) hf
  · refine lv_aload_n hx hb dX12_chance_11 rfl (lv_at hl 0 rfl) ?_
    refine lv_iconst (v := mI 2) hx hb dX12_chance_12 rfl ?_
    refine r_cvi (rest := []) [.int (mI 2)] X hw (fun ra σa h => c_X12_refuses l D cy ad bs F 2 σ2 ra σa  h) sh_86 rfl (by decide) rfl km_X12_refuses kv_X12_refuses lm_X12_235 dX12_chance_13 hl.1 rfl rfl (Nat.le_of_ble_eq_true rfl) ⟨by decide, by decide⟩ ⟨Nat.zero_le _, Nat.zero_le _⟩ hf (fun r5 σ6 _ hf H locs hw => ?_)
    exact r_iret X hw dX12_chance_16 hf
def g_X12_turn_b40 (F : Nat)  (t0 : Int) (σ : mMem) : mRs := if mw t0 = 0 ∨ mw t0 = 1 then some (t0, σ) else none
set_option maxRecDepth 100000 in
set_option maxHeartbeats 4000000 in
theorem w_X12_turn_b40 {p : Program} {l : Launch} {e : Env} {s : State} {m : MethodId} {args : Array Value} {below : List Frame} {meth : Method} {c : Code} {D : va_G} {cy : Nat → ClassId} {ad : Nat → Nat} {bs : Nat} {F : Nat}  (X : mCx p m c cX12_turn 3 s args RX12 meth D cy (some .boolean))  {r : Int} {σ' : mMem}   {t0 : Int} {σ : mMem} {H : Heap} {locs : List Loc} {ls : Array Slot} (hw : mWd D cy ad bs true mN σ s.heap H locs) (hl : lv_has ls 3 [(0, .ref (ad 86))]) (hf : g_X12_turn_b40 F t0 σ = some (r, σ')) : mGi p l e 3 s m args below meth c D cy ad bs r σ' H locs (F0 m 40 ls [.int (mI t0)]) := by
  obtain ⟨⟨hx, hb, -, -, -⟩, -⟩ := id X
  unfold g_X12_turn_b40 at hf
  exact r_zret X hw dX12_turn_40 hf
def g_X12_turn_b27 (F : Nat)  (σ : mMem) : mRs := mob (g_X12_refuses F 3 σ) (fun r108 σ109 => if mw r108 < 0 then (g_X12_turn_b40 F 0 σ109) else (g_X12_turn_b40 F 1 σ109))
set_option maxRecDepth 100000 in
set_option maxHeartbeats 4000000 in
theorem w_X12_turn_b27 {p : Program} {l : Launch} {e : Env} {s : State} {m : MethodId} {args : Array Value} {below : List Frame} {meth : Method} {c : Code} {D : va_G} {cy : Nat → ClassId} {ad : Nat → Nat} {bs : Nat} {F : Nat}  (X : mCx p m c cX12_turn 3 s args RX12 meth D cy (some .boolean))  {r : Int} {σ' : mMem}    {σ : mMem} {H : Heap} {locs : List Loc} {ls : Array Slot} (hw : mWd D cy ad bs true mN σ s.heap H locs) (hl : lv_has ls 3 [(0, .ref (ad 86))]) (hf : g_X12_turn_b27 F  σ = some (r, σ')) : mGi p l e 3 s m args below meth c D cy ad bs r σ' H locs (F0 m 27 ls []) := by
  obtain ⟨⟨hx, hb, -, -, -⟩, -⟩ := id X
  unfold g_X12_turn_b27 at hf
  refine lv_aload_n hx hb dX12_turn_27 rfl (lv_at hl 0 rfl) ?_
  refine lv_iconst (v := mI 3) hx hb dX12_turn_28 rfl ?_
  refine r_cvi (rest := []) [.int (mI 3)] X hw (fun ra σa h => c_X12_refuses l D cy ad bs F 3 σ ra σa  h) sh_86 rfl (by decide) rfl km_X12_refuses kv_X12_refuses lm_X12_235 dX12_turn_29 hl.1 rfl rfl (Nat.le_of_ble_eq_true rfl) ⟨by decide, by decide⟩ ⟨Nat.zero_le _, Nat.zero_le _⟩ hf (fun r108 σ109 _ hf H locs hw => ?_)
  refine r_if_lt (tgt := 39) X dX12_turn_32 (by decide) hf (fun hc hf => ?_) (fun hc hf => ?_)
  · refine lv_iconst (v := mI 0) hx hb dX12_turn_39 rfl ?_
    exact w_X12_turn_b40 X hw (lv_sub hl [0] rfl) hf
  · refine lv_iconst (v := mI 1) hx hb dX12_turn_35 rfl ?_
    refine lv_goto (tgt := 40) hx hb dX12_turn_36 (by decide) ?_
    exact w_X12_turn_b40 X hw (lv_sub hl [0] rfl) hf
def g_X12_turn (F : Nat) (x1 x2 : Int) (σ : mMem) : mRs := mob (g_X12_isBox F x1 σ) (fun r1 σ2 => if mw r1 = 0 then (g_X12_turn_b27 F σ2) else (mob (g_X12_is F x2 0 3 σ2) (fun r3 σ4 => if mw r3 = 0 then (g_X12_turn_b27 F σ4) else (if 0 ≤ mw x1 ∧ mw x1 < (132 : Int) then if ¬ mw (σ4 113 (mw x1).toNat) = mw x2 then (mob (g_X12_keeps F σ4) (fun r5 σ6 => if 0 ≤ mw x1 ∧ mw x1 < (132 : Int) then mlm (mup σ6 113 (mw x1).toNat x2) (fun σ7 => if mw 1 = 0 ∨ mw 1 = 1 then some (1, σ7) else none) else none)) else (g_X12_turn_b27 F σ4) else none))))
set_option maxRecDepth 100000 in
set_option maxHeartbeats 4000000 in
theorem c_X12_turn (l : Launch) (D : va_G) (cy : Nat → ClassId) (ad : Nat → Nat) (bs : Nat) (F : Nat)  (x1 x2 : Int) (σ : mMem) (r : Int) (σ' : mMem)  (hf : g_X12_turn F x1 x2 σ = some (r, σ')) : mCi l D cy ad bs yX12_turn cX12_turn 3 (some .boolean) 3 [.ref (ad 86), .int (mI x1), .int (mI x2)] σ r σ' := by
  refine mCi.of (lv := [(0, .ref (ad 86)), (1, .int (mI x1)), (2, .int (mI x2))]) km_X12_turn.2.2.2.2.2 (Nat.le_of_ble_eq_true rfl) rfl (fun p e s m args below meth c H locs ls X hw hl => ?_)
  obtain ⟨⟨hx, hb, -, -, -⟩, -⟩ := id X
  unfold g_X12_turn at hf
  refine lv_aload_n hx hb dX12_turn_0 rfl (lv_at hl 0 rfl) ?_
  refine lv_iload_n hx hb dX12_turn_1 rfl (lv_at hl 1 rfl) ?_
  refine r_cvi (rest := []) [.int (mI x1)] X hw (fun ra σa h => c_X12_isBox l D cy ad bs F x1 σ ra σa  h) sh_86 rfl (by decide) rfl km_X12_isBox kv_X12_isBox lm_X12_492 dX12_turn_2 hl.1 rfl rfl (Nat.le_of_ble_eq_true rfl) ⟨by decide, by decide⟩ ⟨Nat.zero_le _, Nat.zero_le _⟩ hf (fun r1 σ2 _ hf H locs hw => ?_)
  refine r_if_eq (tgt := 27) X dX12_turn_5 (by decide) hf (fun hc hf => ?_) (fun hc hf => ?_)
  · exact w_X12_turn_b27 X hw (lv_sub hl [0] rfl) hf
  · refine lv_iload_n hx hb dX12_turn_8 rfl (lv_at hl 2 rfl) ?_
    refine lv_iconst (v := mI 0) hx hb dX12_turn_9 rfl ?_
    refine lv_iconst (v := mI 3) hx hb dX12_turn_10 rfl ?_
    refine r_csi (rest := []) [.int (mI x2), .int (mI 0), .int (mI 3)] X hw (fun ra σa h => c_X12_is l D cy ad bs F x2 0 3 σ2 ra σa  h) km_X12_is ks_X12_is lm_X12_318 dX12_turn_11 hl.1 rfl rfl (Nat.le_of_ble_eq_true rfl) ⟨by decide, by decide⟩ ⟨Nat.zero_le _, Nat.zero_le _⟩ hf (fun r3 σ4 _ hf H locs hw => ?_)
    refine r_if_eq (tgt := 27) X dX12_turn_14 (by decide) hf (fun hc hf => ?_) (fun hc hf => ?_)
    · exact w_X12_turn_b27 X hw (lv_sub hl [0] rfl) hf
    · refine lv_aload_n hx hb dX12_turn_17 rfl (lv_at hl 0 rfl) ?_
      refine r_getr 113 X hw sh_86 fd_12_46 rfl rfl lf_X12_153 dX12_turn_18 ?_
      refine lv_iload_n hx hb dX12_turn_21 rfl (lv_at hl 1 rfl) ?_
      refine r_iald (132 : Int) rfl X hw sh_113 dX12_turn_22 hf (fun hf => ?_)
      refine lv_iload_n hx hb dX12_turn_23 rfl (lv_at hl 2 rfl) ?_
      refine r_icmp_ne (tgt := 41) X dX12_turn_24 (by decide) hf (fun hc hf => ?_) (fun hc hf => ?_)
      · refine lv_aload_n hx hb dX12_turn_41 rfl (lv_at hl 0 rfl) ?_
        refine r_cvv (rest := []) [] X hw (fun ra σa h => c_X12_keeps l D cy ad bs F σ4 ra σa  h) sh_86 rfl (by decide) rfl km_X12_keeps kv_X12_keeps lm_X12_517 dX12_turn_42 hl.1 rfl rfl (Nat.le_of_ble_eq_true rfl) ⟨by decide, by decide⟩ ⟨Nat.zero_le _, Nat.zero_le _⟩ hf (fun r5 σ6 _ hf H locs hw => ?_)
        refine lv_aload_n hx hb dX12_turn_45 rfl (lv_at hl 0 rfl) ?_
        refine r_getr 113 X hw sh_86 fd_12_46 rfl rfl lf_X12_153 dX12_turn_46 ?_
        refine lv_iload_n hx hb dX12_turn_49 rfl (lv_at hl 1 rfl) ?_
        refine lv_iload_n hx hb dX12_turn_50 rfl (lv_at hl 2 rfl) ?_
        refine r_iast (132 : Int) rfl X hw sh_113 dX12_turn_51 hf (fun hf H locs hw => ?_)
        refine r_mem hf hw (fun σ7 hw hf => ?_)
        refine lv_iconst (v := mI 1) hx hb dX12_turn_52 rfl ?_
        exact r_zret X hw dX12_turn_53 hf
      · exact w_X12_turn_b27 X hw (lv_sub hl [0] rfl) hf
def g_X12_put__b45 (F : Nat)  (t0 : Int) (σ : mMem) : mRs := if mw t0 = 0 ∨ mw t0 = 1 then some (t0, σ) else none
set_option maxRecDepth 100000 in
set_option maxHeartbeats 4000000 in
theorem w_X12_put__b45 {p : Program} {l : Launch} {e : Env} {s : State} {m : MethodId} {args : Array Value} {below : List Frame} {meth : Method} {c : Code} {D : va_G} {cy : Nat → ClassId} {ad : Nat → Nat} {bs : Nat} {F : Nat}  (X : mCx p m c cX12_put_ 4 s args RX12 meth D cy (some .boolean))  {r : Int} {σ' : mMem}   {t0 : Int} {σ : mMem} {H : Heap} {locs : List Loc} {ls : Array Slot} (hw : mWd D cy ad bs true mN σ s.heap H locs) (hl : lv_has ls 4 [(0, .ref (ad 86))]) (hf : g_X12_put__b45 F t0 σ = some (r, σ')) : mGi p l e 3 s m args below meth c D cy ad bs r σ' H locs (F0 m 45 ls [.int (mI t0)]) := by
  obtain ⟨⟨hx, hb, -, -, -⟩, -⟩ := id X
  unfold g_X12_put__b45 at hf
  exact r_zret X hw dX12_put__45 hf
def g_X12_put__b32 (F : Nat)  (σ : mMem) : mRs := mob (g_X12_refuses F 3 σ) (fun r110 σ111 => if mw r110 < 0 then (g_X12_put__b45 F 0 σ111) else (g_X12_put__b45 F 1 σ111))
set_option maxRecDepth 100000 in
set_option maxHeartbeats 4000000 in
theorem w_X12_put__b32 {p : Program} {l : Launch} {e : Env} {s : State} {m : MethodId} {args : Array Value} {below : List Frame} {meth : Method} {c : Code} {D : va_G} {cy : Nat → ClassId} {ad : Nat → Nat} {bs : Nat} {F : Nat}  (X : mCx p m c cX12_put_ 4 s args RX12 meth D cy (some .boolean))  {r : Int} {σ' : mMem}    {σ : mMem} {H : Heap} {locs : List Loc} {ls : Array Slot} (hw : mWd D cy ad bs true mN σ s.heap H locs) (hl : lv_has ls 4 [(0, .ref (ad 86))]) (hf : g_X12_put__b32 F  σ = some (r, σ')) : mGi p l e 3 s m args below meth c D cy ad bs r σ' H locs (F0 m 32 ls []) := by
  obtain ⟨⟨hx, hb, -, -, -⟩, -⟩ := id X
  unfold g_X12_put__b32 at hf
  refine lv_aload_n hx hb dX12_put__32 rfl (lv_at hl 0 rfl) ?_
  refine lv_iconst (v := mI 3) hx hb dX12_put__33 rfl ?_
  refine r_cvi (rest := []) [.int (mI 3)] X hw (fun ra σa h => c_X12_refuses l D cy ad bs F 3 σ ra σa  h) sh_86 rfl (by decide) rfl km_X12_refuses kv_X12_refuses lm_X12_235 dX12_put__34 hl.1 rfl rfl (Nat.le_of_ble_eq_true rfl) ⟨by decide, by decide⟩ ⟨Nat.zero_le _, Nat.zero_le _⟩ hf (fun r110 σ111 _ hf H locs hw => ?_)
  refine r_if_lt (tgt := 44) X dX12_put__37 (by decide) hf (fun hc hf => ?_) (fun hc hf => ?_)
  · refine lv_iconst (v := mI 0) hx hb dX12_put__44 rfl ?_
    exact w_X12_put__b45 X hw (lv_sub hl [0] rfl) hf
  · refine lv_iconst (v := mI 1) hx hb dX12_put__40 rfl ?_
    refine lv_goto (tgt := 45) hx hb dX12_put__41 (by decide) ?_
    exact w_X12_put__b45 X hw (lv_sub hl [0] rfl) hf
def g_X12_put_ (F : Nat) (x1 x2 x3 : Int) (σ : mMem) : mRs := mob (g_X12_isBox F x1 σ) (fun r1 σ2 => if mw r1 = 0 then (g_X12_put__b32 F σ2) else (mob (g_X12_isOn F x2 x3 σ2) (fun r3 σ4 => if mw r3 = 0 then (g_X12_put__b32 F σ4) else (mob (g_X12_who F 0 ((9 * x3) + x2) σ4) (fun r5 σ6 => if mw r5 = mw (-1) then (mob (g_X12_keeps F σ6) (fun r7 σ8 => if 0 ≤ mw x1 ∧ mw x1 < (132 : Int) then mlm (mup σ8 112 (mw x1).toNat ((9 * x3) + x2)) (fun σ9 => if mw 1 = 0 ∨ mw 1 = 1 then some (1, σ9) else none) else none)) else (g_X12_put__b32 F σ6))))))
set_option maxRecDepth 100000 in
set_option maxHeartbeats 4000000 in
theorem c_X12_put_ (l : Launch) (D : va_G) (cy : Nat → ClassId) (ad : Nat → Nat) (bs : Nat) (F : Nat)  (x1 x2 x3 : Int) (σ : mMem) (r : Int) (σ' : mMem)  (hf : g_X12_put_ F x1 x2 x3 σ = some (r, σ')) : mCi l D cy ad bs yX12_put_ cX12_put_ 4 (some .boolean) 3 [.ref (ad 86), .int (mI x1), .int (mI x2), .int (mI x3)] σ r σ' := by
  refine mCi.of (lv := [(0, .ref (ad 86)), (1, .int (mI x1)), (2, .int (mI x2)), (3, .int (mI x3))]) km_X12_put_.2.2.2.2.2 (Nat.le_of_ble_eq_true rfl) rfl (fun p e s m args below meth c H locs ls X hw hl => ?_)
  obtain ⟨⟨hx, hb, -, -, -⟩, -⟩ := id X
  unfold g_X12_put_ at hf
  refine lv_aload_n hx hb dX12_put__0 rfl (lv_at hl 0 rfl) ?_
  refine lv_iload_n hx hb dX12_put__1 rfl (lv_at hl 1 rfl) ?_
  refine r_cvi (rest := []) [.int (mI x1)] X hw (fun ra σa h => c_X12_isBox l D cy ad bs F x1 σ ra σa  h) sh_86 rfl (by decide) rfl km_X12_isBox kv_X12_isBox lm_X12_492 dX12_put__2 hl.1 rfl rfl (Nat.le_of_ble_eq_true rfl) ⟨by decide, by decide⟩ ⟨Nat.zero_le _, Nat.zero_le _⟩ hf (fun r1 σ2 _ hf H locs hw => ?_)
  refine r_if_eq (tgt := 32) X dX12_put__5 (by decide) hf (fun hc hf => ?_) (fun hc hf => ?_)
  · exact w_X12_put__b32 X hw (lv_sub hl [0] rfl) hf
  · refine lv_aload_n hx hb dX12_put__8 rfl (lv_at hl 0 rfl) ?_
    refine lv_iload_n hx hb dX12_put__9 rfl (lv_at hl 2 rfl) ?_
    refine lv_iload_n hx hb dX12_put__10 rfl (lv_at hl 3 rfl) ?_
    refine r_cvi (rest := []) [.int (mI x2), .int (mI x3)] X hw (fun ra σa h => c_X12_isOn l D cy ad bs F x2 x3 σ2 ra σa  h) sh_86 rfl (by decide) rfl km_X12_isOn kv_X12_isOn lm_X12_446 dX12_put__11 hl.1 rfl rfl (Nat.le_of_ble_eq_true rfl) ⟨by decide, by decide⟩ ⟨Nat.zero_le _, Nat.zero_le _⟩ hf (fun r3 σ4 _ hf H locs hw => ?_)
    refine r_if_eq (tgt := 32) X dX12_put__14 (by decide) hf (fun hc hf => ?_) (fun hc hf => ?_)
    · exact w_X12_put__b32 X hw (lv_sub hl [0] rfl) hf
    · refine lv_aload_n hx hb dX12_put__17 rfl (lv_at hl 0 rfl) ?_
      refine lv_iconst (v := mI 0) hx hb dX12_put__18 rfl ?_
      refine lv_bipush (v := mI 9) hx hb dX12_put__19 (by decide) ?_
      refine lv_iload_n hx hb dX12_put__21 rfl (lv_at hl 3 rfl) ?_
      refine r_imul X dX12_put__22 ?_
      refine lv_iload_n hx hb dX12_put__23 rfl (lv_at hl 2 rfl) ?_
      refine r_iadd X dX12_put__24 ?_
      refine r_cvi (rest := []) [.int (mI 0), .int (mI ((9 * x3) + x2))] X hw (fun ra σa h => c_X12_who l D cy ad bs F 0 ((9 * x3) + x2) σ4 ra σa  h) sh_86 rfl (by decide) rfl km_X12_who kv_X12_who lm_X12_477 dX12_put__25 hl.1 rfl rfl (Nat.le_of_ble_eq_true rfl) ⟨by decide, by decide⟩ ⟨Nat.zero_le _, Nat.zero_le _⟩ hf (fun r5 σ6 _ hf H locs hw => ?_)
      refine lv_iconst (v := mI (-1)) hx hb dX12_put__28 rfl ?_
      refine r_icmp_eq (tgt := 46) X dX12_put__29 (by decide) hf (fun hc hf => ?_) (fun hc hf => ?_)
      · refine lv_aload_n hx hb dX12_put__46 rfl (lv_at hl 0 rfl) ?_
        refine r_cvv (rest := []) [] X hw (fun ra σa h => c_X12_keeps l D cy ad bs F σ6 ra σa  h) sh_86 rfl (by decide) rfl km_X12_keeps kv_X12_keeps lm_X12_517 dX12_put__47 hl.1 rfl rfl (Nat.le_of_ble_eq_true rfl) ⟨by decide, by decide⟩ ⟨Nat.zero_le _, Nat.zero_le _⟩ hf (fun r7 σ8 _ hf H locs hw => ?_)
        refine lv_aload_n hx hb dX12_put__50 rfl (lv_at hl 0 rfl) ?_
        refine r_getr 112 X hw sh_86 fd_12_45 rfl rfl lf_X12_150 dX12_put__51 ?_
        refine lv_iload_n hx hb dX12_put__54 rfl (lv_at hl 1 rfl) ?_
        refine lv_bipush (v := mI 9) hx hb dX12_put__55 (by decide) ?_
        refine lv_iload_n hx hb dX12_put__57 rfl (lv_at hl 3 rfl) ?_
        refine r_imul X dX12_put__58 ?_
        refine lv_iload_n hx hb dX12_put__59 rfl (lv_at hl 2 rfl) ?_
        refine r_iadd X dX12_put__60 ?_
        refine r_iast (132 : Int) rfl X hw sh_112 dX12_put__61 hf (fun hf H locs hw => ?_)
        refine r_mem hf hw (fun σ9 hw hf => ?_)
        refine lv_iconst (v := mI 1) hx hb dX12_put__62 rfl ?_
        exact r_zret X hw dX12_put__63 hf
      · exact w_X12_put__b32 X hw (lv_sub hl [0] rfl) hf
def g_X12_shine_b33 (F : Nat)  (t0 : Int) (σ : mMem) : mRs := if mw t0 = 0 ∨ mw t0 = 1 then some (t0, σ) else none
set_option maxRecDepth 100000 in
set_option maxHeartbeats 4000000 in
theorem w_X12_shine_b33 {p : Program} {l : Launch} {e : Env} {s : State} {m : MethodId} {args : Array Value} {below : List Frame} {meth : Method} {c : Code} {D : va_G} {cy : Nat → ClassId} {ad : Nat → Nat} {bs : Nat} {F : Nat}  (X : mCx p m c cX12_shine 2 s args RX12 meth D cy (some .boolean))  {r : Int} {σ' : mMem}   {t0 : Int} {σ : mMem} {H : Heap} {locs : List Loc} {ls : Array Slot} (hw : mWd D cy ad bs true mN σ s.heap H locs) (hl : lv_has ls 2 [(0, .ref (ad 86))]) (hf : g_X12_shine_b33 F t0 σ = some (r, σ')) : mGi p l e 3 s m args below meth c D cy ad bs r σ' H locs (F0 m 33 ls [.int (mI t0)]) := by
  obtain ⟨⟨hx, hb, -, -, -⟩, -⟩ := id X
  unfold g_X12_shine_b33 at hf
  exact r_zret X hw dX12_shine_33 hf
def g_X12_shine_b20 (F : Nat)  (σ : mMem) : mRs := mob (g_X12_refuses F 3 σ) (fun r106 σ107 => if mw r106 < 0 then (g_X12_shine_b33 F 0 σ107) else (g_X12_shine_b33 F 1 σ107))
set_option maxRecDepth 100000 in
set_option maxHeartbeats 4000000 in
theorem w_X12_shine_b20 {p : Program} {l : Launch} {e : Env} {s : State} {m : MethodId} {args : Array Value} {below : List Frame} {meth : Method} {c : Code} {D : va_G} {cy : Nat → ClassId} {ad : Nat → Nat} {bs : Nat} {F : Nat}  (X : mCx p m c cX12_shine 2 s args RX12 meth D cy (some .boolean))  {r : Int} {σ' : mMem}    {σ : mMem} {H : Heap} {locs : List Loc} {ls : Array Slot} (hw : mWd D cy ad bs true mN σ s.heap H locs) (hl : lv_has ls 2 [(0, .ref (ad 86))]) (hf : g_X12_shine_b20 F  σ = some (r, σ')) : mGi p l e 3 s m args below meth c D cy ad bs r σ' H locs (F0 m 20 ls []) := by
  obtain ⟨⟨hx, hb, -, -, -⟩, -⟩ := id X
  unfold g_X12_shine_b20 at hf
  refine lv_aload_n hx hb dX12_shine_20 rfl (lv_at hl 0 rfl) ?_
  refine lv_iconst (v := mI 3) hx hb dX12_shine_21 rfl ?_
  refine r_cvi (rest := []) [.int (mI 3)] X hw (fun ra σa h => c_X12_refuses l D cy ad bs F 3 σ ra σa  h) sh_86 rfl (by decide) rfl km_X12_refuses kv_X12_refuses lm_X12_235 dX12_shine_22 hl.1 rfl rfl (Nat.le_of_ble_eq_true rfl) ⟨by decide, by decide⟩ ⟨Nat.zero_le _, Nat.zero_le _⟩ hf (fun r106 σ107 _ hf H locs hw => ?_)
  refine r_if_lt (tgt := 32) X dX12_shine_25 (by decide) hf (fun hc hf => ?_) (fun hc hf => ?_)
  · refine lv_iconst (v := mI 0) hx hb dX12_shine_32 rfl ?_
    exact w_X12_shine_b33 X hw (lv_sub hl [0] rfl) hf
  · refine lv_iconst (v := mI 1) hx hb dX12_shine_28 rfl ?_
    refine lv_goto (tgt := 33) hx hb dX12_shine_29 (by decide) ?_
    exact w_X12_shine_b33 X hw (lv_sub hl [0] rfl) hf
def g_X12_shine (F : Nat) (x1 : Int) (σ : mMem) : mRs := mob (g_X12_is F x1 0 9 σ) (fun r1 σ2 => if mw r1 = 0 then (g_X12_shine_b20 F σ2) else (if 0 ≤ mw 0 ∧ mw 0 < (22 : Int) then if ¬ mw (σ2 111 (mw 0).toNat) = mw x1 then (mob (g_X12_keeps F σ2) (fun r3 σ4 => if 0 ≤ mw 0 ∧ mw 0 < (22 : Int) then mlm (mup σ4 111 (mw 0).toNat x1) (fun σ5 => if mw 1 = 0 ∨ mw 1 = 1 then some (1, σ5) else none) else none)) else (g_X12_shine_b20 F σ2) else none))
set_option maxRecDepth 100000 in
set_option maxHeartbeats 4000000 in
theorem c_X12_shine (l : Launch) (D : va_G) (cy : Nat → ClassId) (ad : Nat → Nat) (bs : Nat) (F : Nat)  (x1 : Int) (σ : mMem) (r : Int) (σ' : mMem)  (hf : g_X12_shine F x1 σ = some (r, σ')) : mCi l D cy ad bs yX12_shine cX12_shine 2 (some .boolean) 3 [.ref (ad 86), .int (mI x1)] σ r σ' := by
  refine mCi.of (lv := [(0, .ref (ad 86)), (1, .int (mI x1))]) km_X12_shine.2.2.2.2.2 (Nat.le_of_ble_eq_true rfl) rfl (fun p e s m args below meth c H locs ls X hw hl => ?_)
  obtain ⟨⟨hx, hb, -, -, -⟩, -⟩ := id X
  unfold g_X12_shine at hf
  refine lv_iload_n hx hb dX12_shine_0 rfl (lv_at hl 1 rfl) ?_
  refine lv_iconst (v := mI 0) hx hb dX12_shine_1 rfl ?_
  refine lv_bipush (v := mI 9) hx hb dX12_shine_2 (by decide) ?_
  refine r_csi (rest := []) [.int (mI x1), .int (mI 0), .int (mI 9)] X hw (fun ra σa h => c_X12_is l D cy ad bs F x1 0 9 σ ra σa  h) km_X12_is ks_X12_is lm_X12_318 dX12_shine_4 hl.1 rfl rfl (Nat.le_of_ble_eq_true rfl) ⟨by decide, by decide⟩ ⟨Nat.zero_le _, Nat.zero_le _⟩ hf (fun r1 σ2 _ hf H locs hw => ?_)
  refine r_if_eq (tgt := 20) X dX12_shine_7 (by decide) hf (fun hc hf => ?_) (fun hc hf => ?_)
  · exact w_X12_shine_b20 X hw (lv_sub hl [0] rfl) hf
  · refine lv_aload_n hx hb dX12_shine_10 rfl (lv_at hl 0 rfl) ?_
    refine r_getr 111 X hw sh_86 fd_12_44 rfl rfl lf_X12_147 dX12_shine_11 ?_
    refine lv_iconst (v := mI 0) hx hb dX12_shine_14 rfl ?_
    refine r_iald (22 : Int) rfl X hw sh_111 dX12_shine_15 hf (fun hf => ?_)
    refine lv_iload_n hx hb dX12_shine_16 rfl (lv_at hl 1 rfl) ?_
    refine r_icmp_ne (tgt := 34) X dX12_shine_17 (by decide) hf (fun hc hf => ?_) (fun hc hf => ?_)
    · refine lv_aload_n hx hb dX12_shine_34 rfl (lv_at hl 0 rfl) ?_
      refine r_cvv (rest := []) [] X hw (fun ra σa h => c_X12_keeps l D cy ad bs F σ2 ra σa  h) sh_86 rfl (by decide) rfl km_X12_keeps kv_X12_keeps lm_X12_517 dX12_shine_35 hl.1 rfl rfl (Nat.le_of_ble_eq_true rfl) ⟨by decide, by decide⟩ ⟨Nat.zero_le _, Nat.zero_le _⟩ hf (fun r3 σ4 _ hf H locs hw => ?_)
      refine lv_aload_n hx hb dX12_shine_38 rfl (lv_at hl 0 rfl) ?_
      refine r_getr 111 X hw sh_86 fd_12_44 rfl rfl lf_X12_147 dX12_shine_39 ?_
      refine lv_iconst (v := mI 0) hx hb dX12_shine_42 rfl ?_
      refine lv_iload_n hx hb dX12_shine_43 rfl (lv_at hl 1 rfl) ?_
      refine r_iast (22 : Int) rfl X hw sh_111 dX12_shine_44 hf (fun hf H locs hw => ?_)
      refine r_mem hf hw (fun σ5 hw hf => ?_)
      refine lv_iconst (v := mI 1) hx hb dX12_shine_45 rfl ?_
      exact r_zret X hw dX12_shine_46 hf
    · exact w_X12_shine_b20 X hw (lv_sub hl [0] rfl) hf
def g_X12_seed_b17 (F : Nat)  (t0 : Int) (σ : mMem) : mRs := if mw t0 = 0 ∨ mw t0 = 1 then some (t0, σ) else none
set_option maxRecDepth 100000 in
set_option maxHeartbeats 4000000 in
theorem w_X12_seed_b17 {p : Program} {l : Launch} {e : Env} {s : State} {m : MethodId} {args : Array Value} {below : List Frame} {meth : Method} {c : Code} {D : va_G} {cy : Nat → ClassId} {ad : Nat → Nat} {bs : Nat} {F : Nat}  (X : mCx p m c cX12_seed 2 s args RX12 meth D cy (some .boolean))  {r : Int} {σ' : mMem}   {t0 : Int} {σ : mMem} {H : Heap} {locs : List Loc} {ls : Array Slot} (hw : mWd D cy ad bs true mN σ s.heap H locs) (hl : lv_has ls 2 [(0, .ref (ad 86))]) (hf : g_X12_seed_b17 F t0 σ = some (r, σ')) : mGi p l e 2 s m args below meth c D cy ad bs r σ' H locs (F0 m 17 ls [.int (mI t0)]) := by
  obtain ⟨⟨hx, hb, -, -, -⟩, -⟩ := id X
  unfold g_X12_seed_b17 at hf
  exact r_zret X hw dX12_seed_17 hf
def g_X12_seed (F : Nat) (x1 : Int) (σ : mMem) : mRs := if 0 ≤ mw x1 then (mlm (mup σ 86 54 (mw x1)) (fun σ1 => if mw 1 = 0 ∨ mw 1 = 1 then some (1, σ1) else none)) else (mob (g_X12_refuses F 5 σ) (fun r2 σ3 => if mw r2 < 0 then (g_X12_seed_b17 F 0 σ3) else (g_X12_seed_b17 F 1 σ3)))
set_option maxRecDepth 100000 in
set_option maxHeartbeats 4000000 in
theorem c_X12_seed (l : Launch) (D : va_G) (cy : Nat → ClassId) (ad : Nat → Nat) (bs : Nat) (F : Nat)  (x1 : Int) (σ : mMem) (r : Int) (σ' : mMem)  (hf : g_X12_seed F x1 σ = some (r, σ')) : mCi l D cy ad bs yX12_seed cX12_seed 2 (some .boolean) 2 [.ref (ad 86), .int (mI x1)] σ r σ' := by
  refine mCi.of (lv := [(0, .ref (ad 86)), (1, .int (mI x1))]) km_X12_seed.2.2.2.2.2 (Nat.le_of_ble_eq_true rfl) rfl (fun p e s m args below meth c H locs ls X hw hl => ?_)
  obtain ⟨⟨hx, hb, -, -, -⟩, -⟩ := id X
  unfold g_X12_seed at hf
  refine lv_iload_n hx hb dX12_seed_0 rfl (lv_at hl 1 rfl) ?_
  refine r_if_ge (tgt := 18) X dX12_seed_1 (by decide) hf (fun hc hf => ?_) (fun hc hf => ?_)
  · refine lv_aload_n hx hb dX12_seed_18 rfl (lv_at hl 0 rfl) ?_
    refine lv_iload_n hx hb dX12_seed_19 rfl (lv_at hl 1 rfl) ?_
    refine r_i2l X dX12_seed_20 ?_
    refine r_putl X hw sh_86 fd_12_54 fp_12_54 rfl rfl lf_X12_177 dX12_seed_21 (fun H locs hw => ?_)
    refine r_mem hf hw (fun σ1 hw hf => ?_)
    refine lv_iconst (v := mI 1) hx hb dX12_seed_24 rfl ?_
    exact r_zret X hw dX12_seed_25 hf
  · refine lv_aload_n hx hb dX12_seed_4 rfl (lv_at hl 0 rfl) ?_
    refine lv_iconst (v := mI 5) hx hb dX12_seed_5 rfl ?_
    refine r_cvi (rest := []) [.int (mI 5)] X hw (fun ra σa h => c_X12_refuses l D cy ad bs F 5 σ ra σa  h) sh_86 rfl (by decide) rfl km_X12_refuses kv_X12_refuses lm_X12_235 dX12_seed_6 hl.1 rfl rfl (Nat.le_of_ble_eq_true rfl) ⟨by decide, by decide⟩ ⟨Nat.zero_le _, Nat.zero_le _⟩ hf (fun r2 σ3 _ hf H locs hw => ?_)
    refine r_if_lt (tgt := 16) X dX12_seed_9 (by decide) hf (fun hc hf => ?_) (fun hc hf => ?_)
    · refine lv_iconst (v := mI 0) hx hb dX12_seed_16 rfl ?_
      exact w_X12_seed_b17 X hw (lv_sub hl [0] rfl) hf
    · refine lv_iconst (v := mI 1) hx hb dX12_seed_12 rfl ?_
      refine lv_goto (tgt := 17) hx hb dX12_seed_13 (by decide) ?_
      exact w_X12_seed_b17 X hw (lv_sub hl [0] rfl) hf
def g_X12_kept_b39 (F : Nat)  (t0 : Int) (σ : mMem) : mRs := some (t0, σ)
set_option maxRecDepth 100000 in
set_option maxHeartbeats 4000000 in
theorem w_X12_kept_b39 {p : Program} {l : Launch} {e : Env} {s : State} {m : MethodId} {args : Array Value} {below : List Frame} {meth : Method} {c : Code} {D : va_G} {cy : Nat → ClassId} {ad : Nat → Nat} {bs : Nat} {F : Nat}  (X : mCx p m c cX12_kept 3 s args RX12 meth D cy (some .int))  {r : Int} {σ' : mMem}   {t0 : Int} {σ : mMem} {H : Heap} {locs : List Loc} {ls : Array Slot} (hw : mWd D cy ad bs true mN σ s.heap H locs) (hl : lv_has ls 3 [(0, .ref (ad 86))]) (hf : g_X12_kept_b39 F t0 σ = some (r, σ')) : mGi p l e 2 s m args below meth c D cy ad bs r σ' H locs (F0 m 39 ls [.int (mI t0)]) := by
  obtain ⟨⟨hx, hb, -, -, -⟩, -⟩ := id X
  unfold g_X12_kept_b39 at hf
  exact r_iret X hw dX12_kept_39 hf
def g_X12_kept_b38 (F : Nat)  (σ : mMem) : mRs := g_X12_kept_b39 F (-1) σ
set_option maxRecDepth 100000 in
set_option maxHeartbeats 4000000 in
theorem w_X12_kept_b38 {p : Program} {l : Launch} {e : Env} {s : State} {m : MethodId} {args : Array Value} {below : List Frame} {meth : Method} {c : Code} {D : va_G} {cy : Nat → ClassId} {ad : Nat → Nat} {bs : Nat} {F : Nat}  (X : mCx p m c cX12_kept 3 s args RX12 meth D cy (some .int))  {r : Int} {σ' : mMem}    {σ : mMem} {H : Heap} {locs : List Loc} {ls : Array Slot} (hw : mWd D cy ad bs true mN σ s.heap H locs) (hl : lv_has ls 3 [(0, .ref (ad 86))]) (hf : g_X12_kept_b38 F  σ = some (r, σ')) : mGi p l e 2 s m args below meth c D cy ad bs r σ' H locs (F0 m 38 ls []) := by
  obtain ⟨⟨hx, hb, -, -, -⟩, -⟩ := id X
  unfold g_X12_kept_b38 at hf
  refine lv_iconst (v := mI (-1)) hx hb dX12_kept_38 rfl ?_
  exact w_X12_kept_b39 X hw (lv_sub hl [0] rfl) hf
def g_X12_kept (F : Nat) (x1 x2 : Int) (σ : mMem) : mRs := if 0 ≤ mw 0 ∧ mw 0 < (22 : Int) then mob (g_X12_is F x1 0 ((σ 117 (mw 0).toNat) - 1) σ) (fun r1 σ2 => if mw r1 = 0 then (g_X12_kept_b38 F σ2) else (mob (g_X12_is F x2 0 3 σ2) (fun r3 σ4 => if mw r3 = 0 then (g_X12_kept_b38 F σ4) else (if 0 ≤ mw ((4 * x1) + x2) ∧ mw ((4 * x1) + x2) < (5280 : Int) then g_X12_kept_b39 F (σ4 118 (mw ((4 * x1) + x2)).toNat) σ4 else none)))) else none
set_option maxRecDepth 100000 in
set_option maxHeartbeats 4000000 in
theorem c_X12_kept (l : Launch) (D : va_G) (cy : Nat → ClassId) (ad : Nat → Nat) (bs : Nat) (F : Nat)  (x1 x2 : Int) (σ : mMem) (r : Int) (σ' : mMem)  (hf : g_X12_kept F x1 x2 σ = some (r, σ')) : mCi l D cy ad bs yX12_kept cX12_kept 3 (some .int) 2 [.ref (ad 86), .int (mI x1), .int (mI x2)] σ r σ' := by
  refine mCi.of (lv := [(0, .ref (ad 86)), (1, .int (mI x1)), (2, .int (mI x2))]) km_X12_kept.2.2.2.2.2 (Nat.le_of_ble_eq_true rfl) rfl (fun p e s m args below meth c H locs ls X hw hl => ?_)
  obtain ⟨⟨hx, hb, -, -, -⟩, -⟩ := id X
  unfold g_X12_kept at hf
  refine lv_iload_n hx hb dX12_kept_0 rfl (lv_at hl 1 rfl) ?_
  refine lv_iconst (v := mI 0) hx hb dX12_kept_1 rfl ?_
  refine lv_aload_n hx hb dX12_kept_2 rfl (lv_at hl 0 rfl) ?_
  refine r_getr 117 X hw sh_86 fd_12_50 rfl rfl lf_X12_165 dX12_kept_3 ?_
  refine lv_iconst (v := mI 0) hx hb dX12_kept_6 rfl ?_
  refine r_iald (22 : Int) rfl X hw sh_117 dX12_kept_7 hf (fun hf => ?_)
  refine lv_iconst (v := mI 1) hx hb dX12_kept_8 rfl ?_
  refine r_isub X dX12_kept_9 ?_
  refine r_csi (rest := []) [.int (mI x1), .int (mI 0), .int (mI ((σ 117 (mw 0).toNat) - 1))] X hw (fun ra σa h => c_X12_is l D cy ad bs F x1 0 ((σ 117 (mw 0).toNat) - 1) σ ra σa  h) km_X12_is ks_X12_is lm_X12_318 dX12_kept_10 hl.1 rfl rfl (Nat.le_of_ble_eq_true rfl) ⟨by decide, by decide⟩ ⟨Nat.zero_le _, Nat.zero_le _⟩ hf (fun r1 σ2 _ hf H locs hw => ?_)
  refine r_if_eq (tgt := 38) X dX12_kept_13 (by decide) hf (fun hc hf => ?_) (fun hc hf => ?_)
  · exact w_X12_kept_b38 X hw (lv_sub hl [0] rfl) hf
  · refine lv_iload_n hx hb dX12_kept_16 rfl (lv_at hl 2 rfl) ?_
    refine lv_iconst (v := mI 0) hx hb dX12_kept_17 rfl ?_
    refine lv_iconst (v := mI 3) hx hb dX12_kept_18 rfl ?_
    refine r_csi (rest := []) [.int (mI x2), .int (mI 0), .int (mI 3)] X hw (fun ra σa h => c_X12_is l D cy ad bs F x2 0 3 σ2 ra σa  h) km_X12_is ks_X12_is lm_X12_318 dX12_kept_19 hl.1 rfl rfl (Nat.le_of_ble_eq_true rfl) ⟨by decide, by decide⟩ ⟨Nat.zero_le _, Nat.zero_le _⟩ hf (fun r3 σ4 _ hf H locs hw => ?_)
    refine r_if_eq (tgt := 38) X dX12_kept_22 (by decide) hf (fun hc hf => ?_) (fun hc hf => ?_)
    · exact w_X12_kept_b38 X hw (lv_sub hl [0] rfl) hf
    · refine lv_aload_n hx hb dX12_kept_25 rfl (lv_at hl 0 rfl) ?_
      refine r_getr 118 X hw sh_86 fd_12_51 rfl rfl lf_X12_168 dX12_kept_26 ?_
      refine lv_iconst (v := mI 4) hx hb dX12_kept_29 rfl ?_
      refine lv_iload_n hx hb dX12_kept_30 rfl (lv_at hl 1 rfl) ?_
      refine r_imul X dX12_kept_31 ?_
      refine lv_iload_n hx hb dX12_kept_32 rfl (lv_at hl 2 rfl) ?_
      refine r_iadd X dX12_kept_33 ?_
      refine r_iald (5280 : Int) rfl X hw sh_118 dX12_kept_34 hf (fun hf => ?_)
      refine lv_goto (tgt := 39) hx hb dX12_kept_35 (by decide) ?_
      exact w_X12_kept_b39 X hw (lv_sub hl [0] rfl) hf
def g_X12_writes (F : Nat) (x1 : Int) (σ : mMem) : mRs := if 0 ≤ mw (σ 86 71) ∧ mw (σ 86 71) < (60 : Int) then mlm (mup σ 125 (mw (σ 86 71)).toNat (mand x1 255)) (fun σ1 => mlm (mup σ1 86 71 ((σ1 86 71) + 1)) (fun σ2 => some (0, σ2))) else none
set_option maxRecDepth 100000 in
set_option maxHeartbeats 4000000 in
theorem c_X12_writes (l : Launch) (D : va_G) (cy : Nat → ClassId) (ad : Nat → Nat) (bs : Nat) (F : Nat)  (x1 : Int) (σ : mMem) (r : Int) (σ' : mMem)  (hf : g_X12_writes F x1 σ = some (r, σ')) : mCv l D cy ad bs yX12_writes cX12_writes 2 none 1 [.ref (ad 86), .int (mI x1)] σ σ' := by
  refine mCv.of (lv := [(0, .ref (ad 86)), (1, .int (mI x1))]) km_X12_writes.2.2.2.2.2 (Nat.le_of_ble_eq_true rfl) rfl (fun p e s m args below meth c H locs ls X hw hl => ?_)
  obtain ⟨⟨hx, hb, -, -, -⟩, -⟩ := id X
  unfold g_X12_writes at hf
  refine lv_aload_n hx hb dX12_writes_0 rfl (lv_at hl 0 rfl) ?_
  refine r_getr 125 X hw sh_86 fd_12_70 rfl rfl lf_X12_225 dX12_writes_1 ?_
  refine lv_aload_n hx hb dX12_writes_4 rfl (lv_at hl 0 rfl) ?_
  refine r_geti X hw sh_86 fd_12_71 rfl lf_X12_228 dX12_writes_5 ?_
  refine lv_iload_n hx hb dX12_writes_8 rfl (lv_at hl 1 rfl) ?_
  refine lv_sipush (v := mI 255) hx hb dX12_writes_9 (by decide) ?_
  refine r_iand X dX12_writes_12 ?_
  refine r_iast (60 : Int) rfl X hw sh_125 dX12_writes_13 hf (fun hf H locs hw => ?_)
  refine r_mem hf hw (fun σ1 hw hf => ?_)
  refine lv_aload_n hx hb dX12_writes_14 rfl (lv_at hl 0 rfl) ?_
  refine lv_dup hx hb dX12_writes_15 rfl ?_
  refine r_geti X hw sh_86 fd_12_71 rfl lf_X12_228 dX12_writes_16 ?_
  refine lv_iconst (v := mI 1) hx hb dX12_writes_19 rfl ?_
  refine r_iadd X dX12_writes_20 ?_
  refine r_puti X hw sh_86 fd_12_71 fp_12_71 rfl rfl lf_X12_228 dX12_writes_21 (fun H locs hw => ?_)
  refine r_mem hf hw (fun σ2 hw hf => ?_)
  exact r_vret X hw dX12_writes_24 hf
