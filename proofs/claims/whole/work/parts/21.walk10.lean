def g_X12_reads_b86 (F : Nat) (k43 : Int → mMem → mRs) (t0 : Int) (σ : mMem) : mRs := k43 t0 σ
set_option maxRecDepth 100000 in
set_option maxHeartbeats 4000000 in
theorem w_X12_reads_b86 {p : Program} {l : Launch} {e : Env} {s : State} {m : MethodId} {args : Array Value} {below : List Frame} {meth : Method} {c : Code} {D : va_G} {cy : Nat → ClassId} {ad : Nat → Nat} {bs : Nat} {F : Nat}  (X : mCx p m c cX12_reads 3 s args RX12 meth D cy none)  {r : Int} {σ' : mMem} {k43 : Int → mMem → mRs} (hk43 : ∀ (x2 : Int) (σ : mMem) (H : Heap) (locs : List Loc) (ls : Array Slot), mWd D cy ad bs true mN σ s.heap H locs → lv_has ls 3 [(0, .ref (ad 86)), (2, .int (mI x2))] → k43 x2 σ = some (r, σ') → mGv p l e 5 s m args below meth c D cy ad bs σ' H locs (F0 m 43 ls [])) {t0 : Int} {σ : mMem} {H : Heap} {locs : List Loc} {ls : Array Slot} (hw : mWd D cy ad bs true mN σ s.heap H locs) (hl : lv_has ls 3 [(0, .ref (ad 86))]) (hf : g_X12_reads_b86 F k43 t0 σ = some (r, σ')) : mGv p l e 5 s m args below meth c D cy ad bs σ' H locs (F0 m 86 ls [.int (mI t0)]) := by
  obtain ⟨⟨hx, hb, -, -, -⟩, -⟩ := id X
  unfold g_X12_reads_b86 at hf
  refine lv_istore_n (lv' := [(2, .int (mI t0)), (0, .ref (ad 86))]) hx hb dX12_reads_86 rfl hl (by decide) rfl (fun ls hl => ?_)
  refine lv_goto (tgt := 43) hx hb dX12_reads_87 (by decide) ?_
  exact hk43 t0 σ _ _ _ hw (lv_sub hl [1, 0] rfl) hf
def g_X12_reads_b85 (F : Nat) (k43 : Int → mMem → mRs) (σ : mMem) : mRs := g_X12_reads_b86 F k43 0 σ
set_option maxRecDepth 100000 in
set_option maxHeartbeats 4000000 in
theorem w_X12_reads_b85 {p : Program} {l : Launch} {e : Env} {s : State} {m : MethodId} {args : Array Value} {below : List Frame} {meth : Method} {c : Code} {D : va_G} {cy : Nat → ClassId} {ad : Nat → Nat} {bs : Nat} {F : Nat}  (X : mCx p m c cX12_reads 3 s args RX12 meth D cy none)  {r : Int} {σ' : mMem} {k43 : Int → mMem → mRs} (hk43 : ∀ (x2 : Int) (σ : mMem) (H : Heap) (locs : List Loc) (ls : Array Slot), mWd D cy ad bs true mN σ s.heap H locs → lv_has ls 3 [(0, .ref (ad 86)), (2, .int (mI x2))] → k43 x2 σ = some (r, σ') → mGv p l e 5 s m args below meth c D cy ad bs σ' H locs (F0 m 43 ls []))  {σ : mMem} {H : Heap} {locs : List Loc} {ls : Array Slot} (hw : mWd D cy ad bs true mN σ s.heap H locs) (hl : lv_has ls 3 [(0, .ref (ad 86))]) (hf : g_X12_reads_b85 F k43  σ = some (r, σ')) : mGv p l e 5 s m args below meth c D cy ad bs σ' H locs (F0 m 85 ls []) := by
  obtain ⟨⟨hx, hb, -, -, -⟩, -⟩ := id X
  unfold g_X12_reads_b85 at hf
  refine lv_iconst (v := mI 0) hx hb dX12_reads_85 rfl ?_
  exact w_X12_reads_b86 X hk43 hw (lv_sub hl [0] rfl) hf
def g_X12_reads_b70 (F : Nat) (k43 : Int → mMem → mRs) (x2 : Int) (σ : mMem) : mRs := if mw x2 = 0 then (g_X12_reads_b85 F k43 σ) else (if ¬ mw (σ 86 8) = 0 then (g_X12_reads_b85 F k43 σ) else (g_X12_reads_b86 F k43 1 σ))
set_option maxRecDepth 100000 in
set_option maxHeartbeats 4000000 in
theorem w_X12_reads_b70 {p : Program} {l : Launch} {e : Env} {s : State} {m : MethodId} {args : Array Value} {below : List Frame} {meth : Method} {c : Code} {D : va_G} {cy : Nat → ClassId} {ad : Nat → Nat} {bs : Nat} {F : Nat}  (X : mCx p m c cX12_reads 3 s args RX12 meth D cy none)  {r : Int} {σ' : mMem} {k43 : Int → mMem → mRs} (hk43 : ∀ (x2 : Int) (σ : mMem) (H : Heap) (locs : List Loc) (ls : Array Slot), mWd D cy ad bs true mN σ s.heap H locs → lv_has ls 3 [(0, .ref (ad 86)), (2, .int (mI x2))] → k43 x2 σ = some (r, σ') → mGv p l e 5 s m args below meth c D cy ad bs σ' H locs (F0 m 43 ls [])) {x2 : Int} {σ : mMem} {H : Heap} {locs : List Loc} {ls : Array Slot} (hw : mWd D cy ad bs true mN σ s.heap H locs) (hl : lv_has ls 3 [(0, .ref (ad 86)), (2, .int (mI x2))]) (hf : g_X12_reads_b70 F k43 x2 σ = some (r, σ')) : mGv p l e 5 s m args below meth c D cy ad bs σ' H locs (F0 m 70 ls []) := by
  obtain ⟨⟨hx, hb, -, -, -⟩, -⟩ := id X
  unfold g_X12_reads_b70 at hf
  refine lv_iload_n hx hb dX12_reads_70 rfl (lv_at hl 1 rfl) ?_
  refine r_if_eq (tgt := 85) X dX12_reads_71 (by decide) hf (fun hc hf => ?_) (fun hc hf => ?_)
  · exact w_X12_reads_b85 X hk43 hw (lv_sub hl [0] rfl) hf
  · refine lv_aload_n hx hb dX12_reads_74 rfl (lv_at hl 0 rfl) ?_
    refine r_geti X hw sh_86 fd_12_8 rfl lf_X12_36 dX12_reads_75 ?_
    refine r_if_ne (tgt := 85) X dX12_reads_78 (by decide) hf (fun hc hf => ?_) (fun hc hf => ?_)
    · exact w_X12_reads_b85 X hk43 hw (lv_sub hl [0] rfl) hf
    · refine lv_iconst (v := mI 1) hx hb dX12_reads_81 rfl ?_
      refine lv_goto (tgt := 86) hx hb dX12_reads_82 (by decide) ?_
      exact w_X12_reads_b86 X hk43 hw (lv_sub hl [0] rfl) hf
def g_X12_reads_h43 (F : Nat)  : Nat → Int → mMem → mRs
  | 0, _, _ => none
  | n + 1, x2, σ => if mw x2 = 0 then (some (0, σ)) else (if ¬ mw (σ 86 41) = 0 then (mob (g_X12_goesOn F σ) (fun r207 σ208 => g_X12_reads_b70 F (g_X12_reads_h43 F n) r207 σ208)) else (mob (g_X12_operand F σ) (fun r209 σ210 => if mw r209 = 0 ∨ mw r209 = 1 then mlm (mup σ210 86 41 r209) (fun σ211 => g_X12_reads_b70 F (g_X12_reads_h43 F n) x2 σ211) else none)))
set_option maxRecDepth 100000 in
set_option maxHeartbeats 4000000 in
theorem w_X12_reads_h43 {p : Program} {l : Launch} {e : Env} {s : State} {m : MethodId} {args : Array Value} {below : List Frame} {meth : Method} {c : Code} {D : va_G} {cy : Nat → ClassId} {ad : Nat → Nat} {bs : Nat} {F : Nat}  (X : mCx p m c cX12_reads 3 s args RX12 meth D cy none)  {r : Int} {σ' : mMem}   (n : Nat) : ∀ {x2 : Int} {σ : mMem} {H : Heap} {locs : List Loc} {ls : Array Slot} (_ : mWd D cy ad bs true mN σ s.heap H locs) (_ : lv_has ls 3 [(0, .ref (ad 86)), (2, .int (mI x2))]) (_ : g_X12_reads_h43 F n x2 σ = some (r, σ')), mGv p l e 5 s m args below meth c D cy ad bs σ' H locs (F0 m 43 ls []) := by
  obtain ⟨⟨hx, hb, -, -, -⟩, -⟩ := id X
  induction n with
  | zero =>
    intro x2 σ H locs ls hw hl hf
    unfold g_X12_reads_h43 at hf
    cases hf
  | succ n ih =>
    have hk43 : ∀ (x2 : Int) (σ : mMem) (H : Heap) (locs : List Loc) (ls : Array Slot), mWd D cy ad bs true mN σ s.heap H locs → lv_has ls 3 [(0, .ref (ad 86)), (2, .int (mI x2))] → g_X12_reads_h43 F n x2 σ = some (r, σ') → mGv p l e 5 s m args below meth c D cy ad bs σ' H locs (F0 m 43 ls []) := fun x2 σ H locs ls hw hl hf => ih hw hl hf
    intro x2 σ H locs ls hw hl hf
    unfold g_X12_reads_h43 at hf
    refine lv_iload_n hx hb dX12_reads_43 rfl (lv_at hl 1 rfl) ?_
    refine r_if_eq (tgt := 90) X dX12_reads_44 (by decide) hf (fun hc hf => ?_) (fun hc hf => ?_)
    · exact r_vret X hw dX12_reads_90 hf
    · refine lv_aload_n hx hb dX12_reads_47 rfl (lv_at hl 0 rfl) ?_
      refine r_geti X hw sh_86 fd_12_41 rfl lf_X12_138 dX12_reads_48 ?_
      refine r_if_ne (tgt := 65) X dX12_reads_51 (by decide) hf (fun hc hf => ?_) (fun hc hf => ?_)
      · refine lv_aload_n hx hb dX12_reads_65 rfl (lv_at hl 0 rfl) ?_
        refine r_cvi (rest := []) [] X hw (fun ra σa h => c_X12_goesOn l D cy ad bs F σ ra σa  h) sh_86 rfl (by decide) rfl km_X12_goesOn kv_X12_goesOn lm_X12_350 dX12_reads_66 hl.1 rfl rfl (Nat.le_of_ble_eq_true rfl) ⟨by decide, by decide⟩ ⟨Nat.zero_le _, Nat.zero_le _⟩ hf (fun r207 σ208 _ hf H locs hw => ?_)
        refine lv_istore_n (lv' := [(2, .int (mI r207)), (0, .ref (ad 86))]) hx hb dX12_reads_69 rfl hl (by decide) rfl (fun ls hl => ?_)
        exact w_X12_reads_b70 X hk43 hw (lv_sub hl [1, 0] rfl) hf
      · refine lv_aload_n hx hb dX12_reads_54 rfl (lv_at hl 0 rfl) ?_
        refine lv_aload_n hx hb dX12_reads_55 rfl (lv_at hl 0 rfl) ?_
        refine r_cvi (rest := [.ref (ad 86)]) [] X hw (fun ra σa h => c_X12_operand l D cy ad bs F σ ra σa  h) sh_86 rfl (by decide) rfl km_X12_operand kv_X12_operand lm_X12_347 dX12_reads_56 hl.1 rfl rfl (Nat.le_of_ble_eq_true rfl) ⟨by decide, by decide⟩ ⟨Nat.zero_le _, Nat.zero_le _⟩ hf (fun r209 σ210 _ hf H locs hw => ?_)
        refine r_putz X hw sh_86 fd_12_41 fp_12_41 rfl rfl lf_X12_138 dX12_reads_59 hf (fun hf H locs hw => ?_)
        refine r_mem hf hw (fun σ211 hw hf => ?_)
        refine lv_goto (tgt := 70) hx hb dX12_reads_62 (by decide) ?_
        exact w_X12_reads_b70 X hk43 hw (lv_sub hl [0, 1] rfl) hf
def g_X12_reads_b38 (F : Nat)  (t0 : Int) (σ : mMem) : mRs := mob (g_X12_pushes F t0 σ) (fun r105 σ106 => g_X12_reads_h43 F F 1 σ106)
set_option maxRecDepth 100000 in
set_option maxHeartbeats 4000000 in
theorem w_X12_reads_b38 {p : Program} {l : Launch} {e : Env} {s : State} {m : MethodId} {args : Array Value} {below : List Frame} {meth : Method} {c : Code} {D : va_G} {cy : Nat → ClassId} {ad : Nat → Nat} {bs : Nat} {F : Nat}  (X : mCx p m c cX12_reads 3 s args RX12 meth D cy none)  {r : Int} {σ' : mMem}   {t0 : Int} {σ : mMem} {H : Heap} {locs : List Loc} {ls : Array Slot} (hw : mWd D cy ad bs true mN σ s.heap H locs) (hl : lv_has ls 3 [(0, .ref (ad 86))]) (hf : g_X12_reads_b38 F t0 σ = some (r, σ')) : mGv p l e 5 s m args below meth c D cy ad bs σ' H locs (F0 m 38 ls [.int (mI t0), .ref (ad 86)]) := by
  obtain ⟨⟨hx, hb, -, -, -⟩, -⟩ := id X
  unfold g_X12_reads_b38 at hf
  refine r_cvv (rest := []) [.int (mI t0)] X hw (fun ra σa h => c_X12_pushes l D cy ad bs F t0 σ ra σa  h) sh_86 rfl (by decide) rfl km_X12_pushes kv_X12_pushes lm_X12_328 dX12_reads_38 hl.1 rfl rfl (Nat.le_of_ble_eq_true rfl) ⟨by decide, by decide⟩ ⟨Nat.zero_le _, Nat.zero_le _⟩ hf (fun r105 σ106 _ hf H locs hw => ?_)
  refine lv_iconst (v := mI 1) hx hb dX12_reads_41 rfl ?_
  refine lv_istore_n (lv' := [(2, .int (mI 1)), (0, .ref (ad 86))]) hx hb dX12_reads_42 rfl hl (by decide) rfl (fun ls hl => ?_)
  exact w_X12_reads_h43 X _ hw (lv_sub hl [1, 0] rfl) hf
def g_X12_reads (F : Nat) (x1 : Int) (σ : mMem) : mRs := if mw (σ 86 8) ≤ 0 then (mlm (mup σ 86 37 0) (fun σ1 => mlm (mup σ1 86 38 0) (fun σ2 => mlm (mup σ2 86 40 0) (fun σ3 => if mw 0 = 0 ∨ mw 0 = 1 then mlm (mup σ3 86 41 0) (fun σ4 => if mw x1 = 0 then (g_X12_reads_b38 F 0 σ4) else (g_X12_reads_b38 F 1 σ4)) else none)))) else (some (0, σ))
set_option maxRecDepth 100000 in
set_option maxHeartbeats 4000000 in
theorem c_X12_reads (l : Launch) (D : va_G) (cy : Nat → ClassId) (ad : Nat → Nat) (bs : Nat) (F : Nat)  (x1 : Int) (σ : mMem) (r : Int) (σ' : mMem)  (hf : g_X12_reads F x1 σ = some (r, σ')) : mCv l D cy ad bs yX12_reads cX12_reads 3 none 5 [.ref (ad 86), .int (mI x1)] σ σ' := by
  refine mCv.of (lv := [(0, .ref (ad 86)), (1, .int (mI x1))]) km_X12_reads.2.2.2.2.2 (Nat.le_of_ble_eq_true rfl) rfl (fun p e s m args below meth c H locs ls X hw hl => ?_)
  obtain ⟨⟨hx, hb, -, -, -⟩, -⟩ := id X
  unfold g_X12_reads at hf
  refine lv_aload_n hx hb dX12_reads_0 rfl (lv_at hl 0 rfl) ?_
  refine r_geti X hw sh_86 fd_12_8 rfl lf_X12_36 dX12_reads_1 ?_
  refine r_if_le (tgt := 8) X dX12_reads_4 (by decide) hf (fun hc hf => ?_) (fun hc hf => ?_)
  · refine lv_aload_n hx hb dX12_reads_8 rfl (lv_at hl 0 rfl) ?_
    refine lv_iconst (v := mI 0) hx hb dX12_reads_9 rfl ?_
    refine r_puti X hw sh_86 fd_12_37 fp_12_37 rfl rfl lf_X12_126 dX12_reads_10 (fun H locs hw => ?_)
    refine r_mem hf hw (fun σ1 hw hf => ?_)
    refine lv_aload_n hx hb dX12_reads_13 rfl (lv_at hl 0 rfl) ?_
    refine lv_iconst (v := mI 0) hx hb dX12_reads_14 rfl ?_
    refine r_puti X hw sh_86 fd_12_38 fp_12_38 rfl rfl lf_X12_129 dX12_reads_15 (fun H locs hw => ?_)
    refine r_mem hf hw (fun σ2 hw hf => ?_)
    refine lv_aload_n hx hb dX12_reads_18 rfl (lv_at hl 0 rfl) ?_
    refine lv_iconst (v := mI 0) hx hb dX12_reads_19 rfl ?_
    refine r_puti X hw sh_86 fd_12_40 fp_12_40 rfl rfl lf_X12_135 dX12_reads_20 (fun H locs hw => ?_)
    refine r_mem hf hw (fun σ3 hw hf => ?_)
    refine lv_aload_n hx hb dX12_reads_23 rfl (lv_at hl 0 rfl) ?_
    refine lv_iconst (v := mI 0) hx hb dX12_reads_24 rfl ?_
    refine r_putz X hw sh_86 fd_12_41 fp_12_41 rfl rfl lf_X12_138 dX12_reads_25 hf (fun hf H locs hw => ?_)
    refine r_mem hf hw (fun σ4 hw hf => ?_)
    refine lv_aload_n hx hb dX12_reads_28 rfl (lv_at hl 0 rfl) ?_
    refine lv_iload_n hx hb dX12_reads_29 rfl (lv_at hl 1 rfl) ?_
    refine r_if_eq (tgt := 37) X dX12_reads_30 (by decide) hf (fun hc hf => ?_) (fun hc hf => ?_)
    · refine lv_iconst (v := mI 0) hx hb dX12_reads_37 rfl ?_
      exact w_X12_reads_b38 X hw (lv_sub hl [0] rfl) hf
    · refine lv_iconst (v := mI 1) hx hb dX12_reads_33 rfl ?_
      refine lv_goto (tgt := 38) hx hb dX12_reads_34 (by decide) ?_
      exact w_X12_reads_b38 X hw (lv_sub hl [0] rfl) hf
  · exact r_vret X hw dX12_reads_7 hf
def g_X12_counts_b44 (F : Nat)  (t0 : Int) (σ : mMem) : mRs := if mw t0 = 0 ∨ mw t0 = 1 then some (t0, σ) else none
set_option maxRecDepth 100000 in
set_option maxHeartbeats 4000000 in
theorem w_X12_counts_b44 {p : Program} {l : Launch} {e : Env} {s : State} {m : MethodId} {args : Array Value} {below : List Frame} {meth : Method} {c : Code} {D : va_G} {cy : Nat → ClassId} {ad : Nat → Nat} {bs : Nat} {F : Nat}  (X : mCx p m c cX12_counts 2 s args RX12 meth D cy (some .boolean))  {r : Int} {σ' : mMem}   {t0 : Int} {σ : mMem} {H : Heap} {locs : List Loc} {ls : Array Slot} (hw : mWd D cy ad bs true mN σ s.heap H locs) (hl : lv_has ls 2 [(0, .ref (ad 86))]) (hf : g_X12_counts_b44 F t0 σ = some (r, σ')) : mGi p l e 3 s m args below meth c D cy ad bs r σ' H locs (F0 m 44 ls [.int (mI t0)]) := by
  obtain ⟨⟨hx, hb, -, -, -⟩, -⟩ := id X
  unfold g_X12_counts_b44 at hf
  exact r_zret X hw dX12_counts_44 hf
def g_X12_counts_b32 (F : Nat)  (σ : mMem) : mRs := if ¬ mw (σ 86 8) = 0 then (g_X12_counts_b44 F 0 σ) else (g_X12_counts_b44 F 1 σ)
set_option maxRecDepth 100000 in
set_option maxHeartbeats 4000000 in
theorem w_X12_counts_b32 {p : Program} {l : Launch} {e : Env} {s : State} {m : MethodId} {args : Array Value} {below : List Frame} {meth : Method} {c : Code} {D : va_G} {cy : Nat → ClassId} {ad : Nat → Nat} {bs : Nat} {F : Nat}  (X : mCx p m c cX12_counts 2 s args RX12 meth D cy (some .boolean))  {r : Int} {σ' : mMem}    {σ : mMem} {H : Heap} {locs : List Loc} {ls : Array Slot} (hw : mWd D cy ad bs true mN σ s.heap H locs) (hl : lv_has ls 2 [(0, .ref (ad 86))]) (hf : g_X12_counts_b32 F  σ = some (r, σ')) : mGi p l e 3 s m args below meth c D cy ad bs r σ' H locs (F0 m 32 ls []) := by
  obtain ⟨⟨hx, hb, -, -, -⟩, -⟩ := id X
  unfold g_X12_counts_b32 at hf
  refine lv_aload_n hx hb dX12_counts_32 rfl (lv_at hl 0 rfl) ?_
  refine r_geti X hw sh_86 fd_12_8 rfl lf_X12_36 dX12_counts_33 ?_
  refine r_if_ne (tgt := 43) X dX12_counts_36 (by decide) hf (fun hc hf => ?_) (fun hc hf => ?_)
  · refine lv_iconst (v := mI 0) hx hb dX12_counts_43 rfl ?_
    exact w_X12_counts_b44 X hw (lv_sub hl [0] rfl) hf
  · refine lv_iconst (v := mI 1) hx hb dX12_counts_39 rfl ?_
    refine lv_goto (tgt := 44) hx hb dX12_counts_40 (by decide) ?_
    exact w_X12_counts_b44 X hw (lv_sub hl [0] rfl) hf
def g_X12_counts_b21 (F : Nat)  (σ : mMem) : mRs := if ¬ mw (σ 86 8) = 0 then (g_X12_counts_b32 F σ) else (mob (g_X12_ahead F σ) (fun r103 σ104 => g_X12_counts_b32 F σ104))
set_option maxRecDepth 100000 in
set_option maxHeartbeats 4000000 in
theorem w_X12_counts_b21 {p : Program} {l : Launch} {e : Env} {s : State} {m : MethodId} {args : Array Value} {below : List Frame} {meth : Method} {c : Code} {D : va_G} {cy : Nat → ClassId} {ad : Nat → Nat} {bs : Nat} {F : Nat}  (X : mCx p m c cX12_counts 2 s args RX12 meth D cy (some .boolean))  {r : Int} {σ' : mMem}    {σ : mMem} {H : Heap} {locs : List Loc} {ls : Array Slot} (hw : mWd D cy ad bs true mN σ s.heap H locs) (hl : lv_has ls 2 [(0, .ref (ad 86))]) (hf : g_X12_counts_b21 F  σ = some (r, σ')) : mGi p l e 3 s m args below meth c D cy ad bs r σ' H locs (F0 m 21 ls []) := by
  obtain ⟨⟨hx, hb, -, -, -⟩, -⟩ := id X
  unfold g_X12_counts_b21 at hf
  refine lv_aload_n hx hb dX12_counts_21 rfl (lv_at hl 0 rfl) ?_
  refine r_geti X hw sh_86 fd_12_8 rfl lf_X12_36 dX12_counts_22 ?_
  refine r_if_ne (tgt := 32) X dX12_counts_25 (by decide) hf (fun hc hf => ?_) (fun hc hf => ?_)
  · exact w_X12_counts_b32 X hw (lv_sub hl [0] rfl) hf
  · refine lv_aload_n hx hb dX12_counts_28 rfl (lv_at hl 0 rfl) ?_
    refine r_cvv (rest := []) [] X hw (fun ra σa h => c_X12_ahead l D cy ad bs F σ ra σa  h) sh_86 rfl (by decide) rfl km_X12_ahead kv_X12_ahead lm_X12_259 dX12_counts_29 hl.1 rfl rfl (Nat.le_of_ble_eq_true rfl) ⟨by decide, by decide⟩ ⟨Nat.zero_le _, Nat.zero_le _⟩ hf (fun r103 σ104 _ hf H locs hw => ?_)
    exact w_X12_counts_b32 X hw (lv_sub hl [0] rfl) hf
def g_X12_counts (F : Nat) (x1 : Int) (σ : mMem) : mRs := if ¬ mw (σ 86 8) = 0 then (g_X12_counts_b21 F σ) else (if mw x1 = 0 then (g_X12_counts_b21 F σ) else (mob (g_X12_blame F 6 (σ 86 4) σ) (fun r1 σ2 => g_X12_counts_b21 F σ2)))
set_option maxRecDepth 100000 in
set_option maxHeartbeats 4000000 in
theorem c_X12_counts (l : Launch) (D : va_G) (cy : Nat → ClassId) (ad : Nat → Nat) (bs : Nat) (F : Nat)  (x1 : Int) (σ : mMem) (r : Int) (σ' : mMem)  (hf : g_X12_counts F x1 σ = some (r, σ')) : mCi l D cy ad bs yX12_counts cX12_counts 2 (some .boolean) 3 [.ref (ad 86), .int (mI x1)] σ r σ' := by
  refine mCi.of (lv := [(0, .ref (ad 86)), (1, .int (mI x1))]) km_X12_counts.2.2.2.2.2 (Nat.le_of_ble_eq_true rfl) rfl (fun p e s m args below meth c H locs ls X hw hl => ?_)
  obtain ⟨⟨hx, hb, -, -, -⟩, -⟩ := id X
  unfold g_X12_counts at hf
  refine lv_aload_n hx hb dX12_counts_0 rfl (lv_at hl 0 rfl) ?_
  refine r_geti X hw sh_86 fd_12_8 rfl lf_X12_36 dX12_counts_1 ?_
  refine r_if_ne (tgt := 21) X dX12_counts_4 (by decide) hf (fun hc hf => ?_) (fun hc hf => ?_)
  · exact w_X12_counts_b21 X hw (lv_sub hl [0] rfl) hf
  · refine lv_iload_n hx hb dX12_counts_7 rfl (lv_at hl 1 rfl) ?_
    refine r_if_eq (tgt := 21) X dX12_counts_8 (by decide) hf (fun hc hf => ?_) (fun hc hf => ?_)
    · exact w_X12_counts_b21 X hw (lv_sub hl [0] rfl) hf
    · refine lv_aload_n hx hb dX12_counts_11 rfl (lv_at hl 0 rfl) ?_
      refine lv_bipush (v := mI 6) hx hb dX12_counts_12 (by decide) ?_
      refine lv_aload_n hx hb dX12_counts_14 rfl (lv_at hl 0 rfl) ?_
      refine r_geti X hw sh_86 fd_12_4 rfl lf_X12_23 dX12_counts_15 ?_
      refine r_cvv (rest := []) [.int (mI 6), .int (mI (σ 86 4))] X hw (fun ra σa h => c_X12_blame l D cy ad bs F 6 (σ 86 4) σ ra σa  h) sh_86 rfl (by decide) rfl km_X12_blame kv_X12_blame lm_X12_242 dX12_counts_18 hl.1 rfl rfl (Nat.le_of_ble_eq_true rfl) ⟨by decide, by decide⟩ ⟨Nat.zero_le _, Nat.zero_le _⟩ hf (fun r1 σ2 _ hf H locs hw => ?_)
      exact w_X12_counts_b21 X hw (lv_sub hl [0] rfl) hf
def g_X12_must__b40 (F : Nat)  (σ : mMem) : mRs := some (0, σ)
set_option maxRecDepth 100000 in
set_option maxHeartbeats 4000000 in
theorem w_X12_must__b40 {p : Program} {l : Launch} {e : Env} {s : State} {m : MethodId} {args : Array Value} {below : List Frame} {meth : Method} {c : Code} {D : va_G} {cy : Nat → ClassId} {ad : Nat → Nat} {bs : Nat} {F : Nat}  (X : mCx p m c cX12_must_ 3 s args RX12 meth D cy none)  {r : Int} {σ' : mMem}    {σ : mMem} {H : Heap} {locs : List Loc} {ls : Array Slot} (hw : mWd D cy ad bs true mN σ s.heap H locs) (hl : lv_has ls 3 [(0, .ref (ad 86))]) (hf : g_X12_must__b40 F  σ = some (r, σ')) : mGv p l e 3 s m args below meth c D cy ad bs σ' H locs (F0 m 40 ls []) := by
  obtain ⟨⟨hx, hb, -, -, -⟩, -⟩ := id X
  unfold g_X12_must__b40 at hf
  exact r_vret X hw dX12_must__40 hf
def g_X12_must__b29 (F : Nat)  (σ : mMem) : mRs := if ¬ mw (σ 86 8) = 0 then (g_X12_must__b40 F σ) else (mob (g_X12_ahead F σ) (fun r107 σ108 => g_X12_must__b40 F σ108))
set_option maxRecDepth 100000 in
set_option maxHeartbeats 4000000 in
theorem w_X12_must__b29 {p : Program} {l : Launch} {e : Env} {s : State} {m : MethodId} {args : Array Value} {below : List Frame} {meth : Method} {c : Code} {D : va_G} {cy : Nat → ClassId} {ad : Nat → Nat} {bs : Nat} {F : Nat}  (X : mCx p m c cX12_must_ 3 s args RX12 meth D cy none)  {r : Int} {σ' : mMem}    {σ : mMem} {H : Heap} {locs : List Loc} {ls : Array Slot} (hw : mWd D cy ad bs true mN σ s.heap H locs) (hl : lv_has ls 3 [(0, .ref (ad 86))]) (hf : g_X12_must__b29 F  σ = some (r, σ')) : mGv p l e 3 s m args below meth c D cy ad bs σ' H locs (F0 m 29 ls []) := by
  obtain ⟨⟨hx, hb, -, -, -⟩, -⟩ := id X
  unfold g_X12_must__b29 at hf
  refine lv_aload_n hx hb dX12_must__29 rfl (lv_at hl 0 rfl) ?_
  refine r_geti X hw sh_86 fd_12_8 rfl lf_X12_36 dX12_must__30 ?_
  refine r_if_ne (tgt := 40) X dX12_must__33 (by decide) hf (fun hc hf => ?_) (fun hc hf => ?_)
  · exact w_X12_must__b40 X hw (lv_sub hl [0] rfl) hf
  · refine lv_aload_n hx hb dX12_must__36 rfl (lv_at hl 0 rfl) ?_
    refine r_cvv (rest := []) [] X hw (fun ra σa h => c_X12_ahead l D cy ad bs F σ ra σa  h) sh_86 rfl (by decide) rfl km_X12_ahead kv_X12_ahead lm_X12_259 dX12_must__37 hl.1 rfl rfl (Nat.le_of_ble_eq_true rfl) ⟨by decide, by decide⟩ ⟨Nat.zero_le _, Nat.zero_le _⟩ hf (fun r107 σ108 _ hf H locs hw => ?_)
    exact w_X12_must__b40 X hw (lv_sub hl [0] rfl) hf
def g_X12_must_ (F : Nat) (x1 : Int) (σ : mMem) : mRs := mob (g_X12_lex F σ) (fun r1 σ2 => if mw (σ2 86 8) ≤ 0 then (mob (g_X12_isWord F x1 σ2) (fun r3 σ4 => if ¬ mw r3 = 0 then (g_X12_must__b29 F σ4) else (mob (g_X12_blame F 1 (σ4 86 4) σ4) (fun r5 σ6 => g_X12_must__b29 F σ6)))) else (some (0, σ2)))
set_option maxRecDepth 100000 in
set_option maxHeartbeats 4000000 in
theorem c_X12_must_ (l : Launch) (D : va_G) (cy : Nat → ClassId) (ad : Nat → Nat) (bs : Nat) (F : Nat)  (x1 : Int) (σ : mMem) (r : Int) (σ' : mMem)  (hf : g_X12_must_ F x1 σ = some (r, σ')) : mCv l D cy ad bs yX12_must_ cX12_must_ 3 none 3 [.ref (ad 86), .long (mL x1)] σ σ' := by
  refine mCv.of (lv := [(0, .ref (ad 86)), (1, .long (mL x1))]) km_X12_must_.2.2.2.2.2 (Nat.le_of_ble_eq_true rfl) rfl (fun p e s m args below meth c H locs ls X hw hl => ?_)
  obtain ⟨⟨hx, hb, -, -, -⟩, -⟩ := id X
  unfold g_X12_must_ at hf
  refine lv_aload_n hx hb dX12_must__0 rfl (lv_at hl 0 rfl) ?_
  refine r_cvv (rest := []) [] X hw (fun ra σa h => c_X12_lex l D cy ad bs F σ ra σa  h) sh_86 rfl (by decide) rfl km_X12_lex kv_X12_lex lm_X12_253 dX12_must__1 hl.1 rfl rfl (Nat.le_of_ble_eq_true rfl) ⟨by decide, by decide⟩ ⟨Nat.zero_le _, Nat.zero_le _⟩ hf (fun r1 σ2 _ hf H locs hw => ?_)
  refine lv_aload_n hx hb dX12_must__4 rfl (lv_at hl 0 rfl) ?_
  refine r_geti X hw sh_86 fd_12_8 rfl lf_X12_36 dX12_must__5 ?_
  refine r_if_le (tgt := 12) X dX12_must__8 (by decide) hf (fun hc hf => ?_) (fun hc hf => ?_)
  · refine lv_aload_n hx hb dX12_must__12 rfl (lv_at hl 0 rfl) ?_
    refine lv_lload_n hx hb dX12_must__13 rfl (lv_at hl 1 rfl) ?_
    refine r_cvi (rest := []) [.long (mL x1)] X hw (fun ra σa h => c_X12_isWord l D cy ad bs F x1 σ2 ra σa  h) sh_86 rfl (by decide) rfl km_X12_isWord kv_X12_isWord lm_X12_334 dX12_must__14 hl.1 rfl rfl (Nat.le_of_ble_eq_true rfl) ⟨by decide, by decide⟩ ⟨Nat.zero_le _, Nat.zero_le _⟩ hf (fun r3 σ4 _ hf H locs hw => ?_)
    refine r_if_ne (tgt := 29) X dX12_must__17 (by decide) hf (fun hc hf => ?_) (fun hc hf => ?_)
    · exact w_X12_must__b29 X hw (lv_sub hl [0] rfl) hf
    · refine lv_aload_n hx hb dX12_must__20 rfl (lv_at hl 0 rfl) ?_
      refine lv_iconst (v := mI 1) hx hb dX12_must__21 rfl ?_
      refine lv_aload_n hx hb dX12_must__22 rfl (lv_at hl 0 rfl) ?_
      refine r_geti X hw sh_86 fd_12_4 rfl lf_X12_23 dX12_must__23 ?_
      refine r_cvv (rest := []) [.int (mI 1), .int (mI (σ4 86 4))] X hw (fun ra σa h => c_X12_blame l D cy ad bs F 1 (σ4 86 4) σ4 ra σa  h) sh_86 rfl (by decide) rfl km_X12_blame kv_X12_blame lm_X12_242 dX12_must__26 hl.1 rfl rfl (Nat.le_of_ble_eq_true rfl) ⟨by decide, by decide⟩ ⟨Nat.zero_le _, Nat.zero_le _⟩ hf (fun r5 σ6 _ hf H locs hw => ?_)
      exact w_X12_must__b29 X hw (lv_sub hl [0] rfl) hf
  · exact r_vret X hw dX12_must__11 hf
def g_X12_fresh_b85 (F : Nat)  (x1 : Int) (σ : mMem) : mRs := some (x1, σ)
set_option maxRecDepth 100000 in
set_option maxHeartbeats 4000000 in
theorem w_X12_fresh_b85 {p : Program} {l : Launch} {e : Env} {s : State} {m : MethodId} {args : Array Value} {below : List Frame} {meth : Method} {c : Code} {D : va_G} {cy : Nat → ClassId} {ad : Nat → Nat} {bs : Nat} {F : Nat}  (X : mCx p m c cX12_fresh 3 s args RX12 meth D cy (some .long))  {r : Int} {σ' : mMem}   {x1 : Int} {σ : mMem} {H : Heap} {locs : List Loc} {ls : Array Slot} (hw : mWd D cy ad bs true mN σ s.heap H locs) (hl : lv_has ls 3 [(0, .ref (ad 86)), (1, .long (mL x1))]) (hf : g_X12_fresh_b85 F x1 σ = some (r, σ')) : mGl p l e 3 s m args below meth c D cy ad bs r σ' H locs (F0 m 85 ls []) := by
  obtain ⟨⟨hx, hb, -, -, -⟩, -⟩ := id X
  unfold g_X12_fresh_b85 at hf
  refine lv_lload_n hx hb dX12_fresh_85 rfl (lv_at hl 1 rfl) ?_
  exact r_lret X hw dX12_fresh_86 hf
def g_X12_fresh_b69 (F : Nat)  (σ : mMem) : mRs := mlet (σ 86 7) (fun y311 => if ¬ mw (σ 86 8) = 0 then (g_X12_fresh_b85 F y311 σ) else (mob (g_X12_ahead F σ) (fun r312 σ313 => g_X12_fresh_b85 F y311 σ313)))
set_option maxRecDepth 100000 in
set_option maxHeartbeats 4000000 in
theorem w_X12_fresh_b69 {p : Program} {l : Launch} {e : Env} {s : State} {m : MethodId} {args : Array Value} {below : List Frame} {meth : Method} {c : Code} {D : va_G} {cy : Nat → ClassId} {ad : Nat → Nat} {bs : Nat} {F : Nat}  (X : mCx p m c cX12_fresh 3 s args RX12 meth D cy (some .long))  {r : Int} {σ' : mMem}    {σ : mMem} {H : Heap} {locs : List Loc} {ls : Array Slot} (hw : mWd D cy ad bs true mN σ s.heap H locs) (hl : lv_has ls 3 [(0, .ref (ad 86))]) (hf : g_X12_fresh_b69 F  σ = some (r, σ')) : mGl p l e 3 s m args below meth c D cy ad bs r σ' H locs (F0 m 69 ls []) := by
  obtain ⟨⟨hx, hb, -, -, -⟩, -⟩ := id X
  unfold g_X12_fresh_b69 at hf
  refine lv_aload_n hx hb dX12_fresh_69 rfl (lv_at hl 0 rfl) ?_
  refine r_getl X hw sh_86 fd_12_7 rfl lf_X12_32 dX12_fresh_70 ?_
  refine r_letl hf (fun y311 hf => ?_)
  refine lv_lstore_n (lv' := [(1, .long (mL y311)), (0, .ref (ad 86))]) hx hb dX12_fresh_73 rfl hl (by decide) rfl (fun ls hl => ?_)
  refine lv_aload_n hx hb dX12_fresh_74 rfl (lv_at hl 1 rfl) ?_
  refine r_geti X hw sh_86 fd_12_8 rfl lf_X12_36 dX12_fresh_75 ?_
  refine r_if_ne (tgt := 85) X dX12_fresh_78 (by decide) hf (fun hc hf => ?_) (fun hc hf => ?_)
  · exact w_X12_fresh_b85 X hw (lv_sub hl [1, 0] rfl) hf
  · refine lv_aload_n hx hb dX12_fresh_81 rfl (lv_at hl 1 rfl) ?_
    refine r_cvv (rest := []) [] X hw (fun ra σa h => c_X12_ahead l D cy ad bs F σ ra σa  h) sh_86 rfl (by decide) rfl km_X12_ahead kv_X12_ahead lm_X12_259 dX12_fresh_82 hl.1 rfl rfl (Nat.le_of_ble_eq_true rfl) ⟨by decide, by decide⟩ ⟨Nat.zero_le _, Nat.zero_le _⟩ hf (fun r312 σ313 _ hf H locs hw => ?_)
    exact w_X12_fresh_b85 X hw (lv_sub hl [1, 0] rfl) hf
def g_X12_fresh_b41 (F : Nat)  (σ : mMem) : mRs := if ¬ mw (σ 86 8) = 0 then (g_X12_fresh_b69 F σ) else (mob (g_X12_named F (σ 86 7) σ) (fun r105 σ106 => if mw r105 = mw (-1) then (g_X12_fresh_b69 F σ106) else (mob (g_X12_blame F 2 (σ106 86 4) σ106) (fun r107 σ108 => g_X12_fresh_b69 F σ108))))
set_option maxRecDepth 100000 in
set_option maxHeartbeats 4000000 in
theorem w_X12_fresh_b41 {p : Program} {l : Launch} {e : Env} {s : State} {m : MethodId} {args : Array Value} {below : List Frame} {meth : Method} {c : Code} {D : va_G} {cy : Nat → ClassId} {ad : Nat → Nat} {bs : Nat} {F : Nat}  (X : mCx p m c cX12_fresh 3 s args RX12 meth D cy (some .long))  {r : Int} {σ' : mMem}    {σ : mMem} {H : Heap} {locs : List Loc} {ls : Array Slot} (hw : mWd D cy ad bs true mN σ s.heap H locs) (hl : lv_has ls 3 [(0, .ref (ad 86))]) (hf : g_X12_fresh_b41 F  σ = some (r, σ')) : mGl p l e 3 s m args below meth c D cy ad bs r σ' H locs (F0 m 41 ls []) := by
  obtain ⟨⟨hx, hb, -, -, -⟩, -⟩ := id X
  unfold g_X12_fresh_b41 at hf
  refine lv_aload_n hx hb dX12_fresh_41 rfl (lv_at hl 0 rfl) ?_
  refine r_geti X hw sh_86 fd_12_8 rfl lf_X12_36 dX12_fresh_42 ?_
  refine r_if_ne (tgt := 69) X dX12_fresh_45 (by decide) hf (fun hc hf => ?_) (fun hc hf => ?_)
  · exact w_X12_fresh_b69 X hw (lv_sub hl [0] rfl) hf
  · refine lv_aload_n hx hb dX12_fresh_48 rfl (lv_at hl 0 rfl) ?_
    refine lv_aload_n hx hb dX12_fresh_49 rfl (lv_at hl 0 rfl) ?_
    refine r_getl X hw sh_86 fd_12_7 rfl lf_X12_32 dX12_fresh_50 ?_
    refine r_cvi (rest := []) [.long (mL (σ 86 7))] X hw (fun ra σa h => c_X12_named l D cy ad bs F (σ 86 7) σ ra σa  h) sh_86 rfl (by decide) rfl km_X12_named kv_X12_named lm_X12_356 dX12_fresh_53 hl.1 rfl rfl (Nat.le_of_ble_eq_true rfl) ⟨by decide, by decide⟩ ⟨Nat.zero_le _, Nat.zero_le _⟩ hf (fun r105 σ106 _ hf H locs hw => ?_)
    refine lv_iconst (v := mI (-1)) hx hb dX12_fresh_56 rfl ?_
    refine r_icmp_eq (tgt := 69) X dX12_fresh_57 (by decide) hf (fun hc hf => ?_) (fun hc hf => ?_)
    · exact w_X12_fresh_b69 X hw (lv_sub hl [0] rfl) hf
    · refine lv_aload_n hx hb dX12_fresh_60 rfl (lv_at hl 0 rfl) ?_
      refine lv_iconst (v := mI 2) hx hb dX12_fresh_61 rfl ?_
      refine lv_aload_n hx hb dX12_fresh_62 rfl (lv_at hl 0 rfl) ?_
      refine r_geti X hw sh_86 fd_12_4 rfl lf_X12_23 dX12_fresh_63 ?_
      refine r_cvv (rest := []) [.int (mI 2), .int (mI (σ106 86 4))] X hw (fun ra σa h => c_X12_blame l D cy ad bs F 2 (σ106 86 4) σ106 ra σa  h) sh_86 rfl (by decide) rfl km_X12_blame kv_X12_blame lm_X12_242 dX12_fresh_66 hl.1 rfl rfl (Nat.le_of_ble_eq_true rfl) ⟨by decide, by decide⟩ ⟨Nat.zero_le _, Nat.zero_le _⟩ hf (fun r107 σ108 _ hf H locs hw => ?_)
      exact w_X12_fresh_b69 X hw (lv_sub hl [0] rfl) hf
def g_X12_fresh_b32 (F : Nat)  (σ : mMem) : mRs := mob (g_X12_blame F 1 (σ 86 4) σ) (fun r209 σ210 => g_X12_fresh_b41 F σ210)
set_option maxRecDepth 100000 in
set_option maxHeartbeats 4000000 in
theorem w_X12_fresh_b32 {p : Program} {l : Launch} {e : Env} {s : State} {m : MethodId} {args : Array Value} {below : List Frame} {meth : Method} {c : Code} {D : va_G} {cy : Nat → ClassId} {ad : Nat → Nat} {bs : Nat} {F : Nat}  (X : mCx p m c cX12_fresh 3 s args RX12 meth D cy (some .long))  {r : Int} {σ' : mMem}    {σ : mMem} {H : Heap} {locs : List Loc} {ls : Array Slot} (hw : mWd D cy ad bs true mN σ s.heap H locs) (hl : lv_has ls 3 [(0, .ref (ad 86))]) (hf : g_X12_fresh_b32 F  σ = some (r, σ')) : mGl p l e 3 s m args below meth c D cy ad bs r σ' H locs (F0 m 32 ls []) := by
  obtain ⟨⟨hx, hb, -, -, -⟩, -⟩ := id X
  unfold g_X12_fresh_b32 at hf
  refine lv_aload_n hx hb dX12_fresh_32 rfl (lv_at hl 0 rfl) ?_
  refine lv_iconst (v := mI 1) hx hb dX12_fresh_33 rfl ?_
  refine lv_aload_n hx hb dX12_fresh_34 rfl (lv_at hl 0 rfl) ?_
  refine r_geti X hw sh_86 fd_12_4 rfl lf_X12_23 dX12_fresh_35 ?_
  refine r_cvv (rest := []) [.int (mI 1), .int (mI (σ 86 4))] X hw (fun ra σa h => c_X12_blame l D cy ad bs F 1 (σ 86 4) σ ra σa  h) sh_86 rfl (by decide) rfl km_X12_blame kv_X12_blame lm_X12_242 dX12_fresh_38 hl.1 rfl rfl (Nat.le_of_ble_eq_true rfl) ⟨by decide, by decide⟩ ⟨Nat.zero_le _, Nat.zero_le _⟩ hf (fun r209 σ210 _ hf H locs hw => ?_)
  exact w_X12_fresh_b41 X hw (lv_sub hl [0] rfl) hf
def g_X12_fresh (F : Nat) (σ : mMem) : mRs := mob (g_X12_lex F σ) (fun r1 σ2 => if mw (σ2 86 8) ≤ 0 then (if ¬ mw (σ2 86 3) = mw 1 then (g_X12_fresh_b32 F σ2) else (mob (g_X12_isOwn F (σ2 86 7) σ2) (fun r3 σ4 => if mw r3 = 0 then (g_X12_fresh_b41 F σ4) else (g_X12_fresh_b32 F σ4)))) else (some (0, σ2)))
set_option maxRecDepth 100000 in
set_option maxHeartbeats 4000000 in
theorem c_X12_fresh (l : Launch) (D : va_G) (cy : Nat → ClassId) (ad : Nat → Nat) (bs : Nat) (F : Nat)   (σ : mMem) (r : Int) (σ' : mMem)  (hf : g_X12_fresh F  σ = some (r, σ')) : mCl l D cy ad bs yX12_fresh cX12_fresh 3 (some .long) 3 [.ref (ad 86)] σ r σ' := by
  refine mCl.of (lv := [(0, .ref (ad 86))]) km_X12_fresh.2.2.2.2.2 (Nat.le_of_ble_eq_true rfl) rfl (fun p e s m args below meth c H locs ls X hw hl => ?_)
  obtain ⟨⟨hx, hb, -, -, -⟩, -⟩ := id X
  unfold g_X12_fresh at hf
  refine lv_aload_n hx hb dX12_fresh_0 rfl (lv_at hl 0 rfl) ?_
  refine r_cvv (rest := []) [] X hw (fun ra σa h => c_X12_lex l D cy ad bs F σ ra σa  h) sh_86 rfl (by decide) rfl km_X12_lex kv_X12_lex lm_X12_253 dX12_fresh_1 hl.1 rfl rfl (Nat.le_of_ble_eq_true rfl) ⟨by decide, by decide⟩ ⟨Nat.zero_le _, Nat.zero_le _⟩ hf (fun r1 σ2 _ hf H locs hw => ?_)
  refine lv_aload_n hx hb dX12_fresh_4 rfl (lv_at hl 0 rfl) ?_
  refine r_geti X hw sh_86 fd_12_8 rfl lf_X12_36 dX12_fresh_5 ?_
  refine r_if_le (tgt := 13) X dX12_fresh_8 (by decide) hf (fun hc hf => ?_) (fun hc hf => ?_)
  · refine lv_aload_n hx hb dX12_fresh_13 rfl (lv_at hl 0 rfl) ?_
    refine r_geti X hw sh_86 fd_12_3 rfl lf_X12_20 dX12_fresh_14 ?_
    refine lv_iconst (v := mI 1) hx hb dX12_fresh_17 rfl ?_
    refine r_icmp_ne (tgt := 32) X dX12_fresh_18 (by decide) hf (fun hc hf => ?_) (fun hc hf => ?_)
    · exact w_X12_fresh_b32 X hw (lv_sub hl [0] rfl) hf
    · refine lv_aload_n hx hb dX12_fresh_21 rfl (lv_at hl 0 rfl) ?_
      refine lv_aload_n hx hb dX12_fresh_22 rfl (lv_at hl 0 rfl) ?_
      refine r_getl X hw sh_86 fd_12_7 rfl lf_X12_32 dX12_fresh_23 ?_
      refine r_cvi (rest := []) [.long (mL (σ2 86 7))] X hw (fun ra σa h => c_X12_isOwn l D cy ad bs F (σ2 86 7) σ2 ra σa  h) sh_86 rfl (by decide) rfl km_X12_isOwn kv_X12_isOwn lm_X12_353 dX12_fresh_26 hl.1 rfl rfl (Nat.le_of_ble_eq_true rfl) ⟨by decide, by decide⟩ ⟨Nat.zero_le _, Nat.zero_le _⟩ hf (fun r3 σ4 _ hf H locs hw => ?_)
      refine r_if_eq (tgt := 41) X dX12_fresh_29 (by decide) hf (fun hc hf => ?_) (fun hc hf => ?_)
      · exact w_X12_fresh_b41 X hw (lv_sub hl [0] rfl) hf
      · exact w_X12_fresh_b32 X hw (lv_sub hl [0] rfl) hf
  · refine lv_lconst (v := mL 0) hx hb dX12_fresh_11 (by decide) ?_
    exact r_lret X hw dX12_fresh_12 hf
def g_X12_known_b105 (F : Nat)  (t0 : Int) (σ : mMem) : mRs := some (t0, σ)
set_option maxRecDepth 100000 in
set_option maxHeartbeats 4000000 in
theorem w_X12_known_b105 {p : Program} {l : Launch} {e : Env} {s : State} {m : MethodId} {args : Array Value} {below : List Frame} {meth : Method} {c : Code} {D : va_G} {cy : Nat → ClassId} {ad : Nat → Nat} {bs : Nat} {F : Nat}  (X : mCx p m c cX12_known 2 s args RX12 meth D cy (some .int))  {r : Int} {σ' : mMem}   {t0 : Int} {σ : mMem} {H : Heap} {locs : List Loc} {ls : Array Slot} (hw : mWd D cy ad bs true mN σ s.heap H locs) (hl : lv_has ls 2 [(0, .ref (ad 86))]) (hf : g_X12_known_b105 F t0 σ = some (r, σ')) : mGi p l e 3 s m args below meth c D cy ad bs r σ' H locs (F0 m 105 ls [.int (mI t0)]) := by
  obtain ⟨⟨hx, hb, -, -, -⟩, -⟩ := id X
  unfold g_X12_known_b105 at hf
  exact r_iret X hw dX12_known_105 hf
def g_X12_known_b93 (F : Nat)  (x1 : Int) (σ : mMem) : mRs := if mw (σ 86 8) ≤ 0 then (g_X12_known_b105 F x1 σ) else (g_X12_known_b105 F 0 σ)
set_option maxRecDepth 100000 in
set_option maxHeartbeats 4000000 in
theorem w_X12_known_b93 {p : Program} {l : Launch} {e : Env} {s : State} {m : MethodId} {args : Array Value} {below : List Frame} {meth : Method} {c : Code} {D : va_G} {cy : Nat → ClassId} {ad : Nat → Nat} {bs : Nat} {F : Nat}  (X : mCx p m c cX12_known 2 s args RX12 meth D cy (some .int))  {r : Int} {σ' : mMem}   {x1 : Int} {σ : mMem} {H : Heap} {locs : List Loc} {ls : Array Slot} (hw : mWd D cy ad bs true mN σ s.heap H locs) (hl : lv_has ls 2 [(0, .ref (ad 86)), (1, .int (mI x1))]) (hf : g_X12_known_b93 F x1 σ = some (r, σ')) : mGi p l e 3 s m args below meth c D cy ad bs r σ' H locs (F0 m 93 ls []) := by
  obtain ⟨⟨hx, hb, -, -, -⟩, -⟩ := id X
  unfold g_X12_known_b93 at hf
  refine lv_aload_n hx hb dX12_known_93 rfl (lv_at hl 0 rfl) ?_
  refine r_geti X hw sh_86 fd_12_8 rfl lf_X12_36 dX12_known_94 ?_
  refine r_if_le (tgt := 104) X dX12_known_97 (by decide) hf (fun hc hf => ?_) (fun hc hf => ?_)
  · refine lv_iload_n hx hb dX12_known_104 rfl (lv_at hl 1 rfl) ?_
    exact w_X12_known_b105 X hw (lv_sub hl [0] rfl) hf
  · refine lv_iconst (v := mI 0) hx hb dX12_known_100 rfl ?_
    refine lv_goto (tgt := 105) hx hb dX12_known_101 (by decide) ?_
    exact w_X12_known_b105 X hw (lv_sub hl [0] rfl) hf
def g_X12_known_b82 (F : Nat)  (x1 : Int) (σ : mMem) : mRs := if ¬ mw (σ 86 8) = 0 then (g_X12_known_b93 F x1 σ) else (mob (g_X12_ahead F σ) (fun r411 σ412 => g_X12_known_b93 F x1 σ412))
set_option maxRecDepth 100000 in
set_option maxHeartbeats 4000000 in
theorem w_X12_known_b82 {p : Program} {l : Launch} {e : Env} {s : State} {m : MethodId} {args : Array Value} {below : List Frame} {meth : Method} {c : Code} {D : va_G} {cy : Nat → ClassId} {ad : Nat → Nat} {bs : Nat} {F : Nat}  (X : mCx p m c cX12_known 2 s args RX12 meth D cy (some .int))  {r : Int} {σ' : mMem}   {x1 : Int} {σ : mMem} {H : Heap} {locs : List Loc} {ls : Array Slot} (hw : mWd D cy ad bs true mN σ s.heap H locs) (hl : lv_has ls 2 [(0, .ref (ad 86)), (1, .int (mI x1))]) (hf : g_X12_known_b82 F x1 σ = some (r, σ')) : mGi p l e 3 s m args below meth c D cy ad bs r σ' H locs (F0 m 82 ls []) := by
  obtain ⟨⟨hx, hb, -, -, -⟩, -⟩ := id X
  unfold g_X12_known_b82 at hf
  refine lv_aload_n hx hb dX12_known_82 rfl (lv_at hl 0 rfl) ?_
  refine r_geti X hw sh_86 fd_12_8 rfl lf_X12_36 dX12_known_83 ?_
  refine r_if_ne (tgt := 93) X dX12_known_86 (by decide) hf (fun hc hf => ?_) (fun hc hf => ?_)
  · exact w_X12_known_b93 X hw (lv_sub hl [0, 1] rfl) hf
  · refine lv_aload_n hx hb dX12_known_89 rfl (lv_at hl 0 rfl) ?_
    refine r_cvv (rest := []) [] X hw (fun ra σa h => c_X12_ahead l D cy ad bs F σ ra σa  h) sh_86 rfl (by decide) rfl km_X12_ahead kv_X12_ahead lm_X12_259 dX12_known_90 hl.1 rfl rfl (Nat.le_of_ble_eq_true rfl) ⟨by decide, by decide⟩ ⟨Nat.zero_le _, Nat.zero_le _⟩ hf (fun r411 σ412 _ hf H locs hw => ?_)
    exact w_X12_known_b93 X hw (lv_sub hl [0, 1] rfl) hf
def g_X12_known_b60 (F : Nat)  (t0 : Int) (σ : mMem) : mRs := if ¬ mw (σ 86 8) = 0 then (g_X12_known_b82 F t0 σ) else (if ¬ mw t0 = mw (-1) then (g_X12_known_b82 F t0 σ) else (mob (g_X12_blame F 3 (σ 86 4) σ) (fun r309 σ310 => g_X12_known_b82 F t0 σ310)))
set_option maxRecDepth 100000 in
set_option maxHeartbeats 4000000 in
theorem w_X12_known_b60 {p : Program} {l : Launch} {e : Env} {s : State} {m : MethodId} {args : Array Value} {below : List Frame} {meth : Method} {c : Code} {D : va_G} {cy : Nat → ClassId} {ad : Nat → Nat} {bs : Nat} {F : Nat}  (X : mCx p m c cX12_known 2 s args RX12 meth D cy (some .int))  {r : Int} {σ' : mMem}   {t0 : Int} {σ : mMem} {H : Heap} {locs : List Loc} {ls : Array Slot} (hw : mWd D cy ad bs true mN σ s.heap H locs) (hl : lv_has ls 2 [(0, .ref (ad 86))]) (hf : g_X12_known_b60 F t0 σ = some (r, σ')) : mGi p l e 3 s m args below meth c D cy ad bs r σ' H locs (F0 m 60 ls [.int (mI t0)]) := by
  obtain ⟨⟨hx, hb, -, -, -⟩, -⟩ := id X
  unfold g_X12_known_b60 at hf
  refine lv_istore_n (lv' := [(1, .int (mI t0)), (0, .ref (ad 86))]) hx hb dX12_known_60 rfl hl (by decide) rfl (fun ls hl => ?_)
  refine lv_aload_n hx hb dX12_known_61 rfl (lv_at hl 1 rfl) ?_
  refine r_geti X hw sh_86 fd_12_8 rfl lf_X12_36 dX12_known_62 ?_
  refine r_if_ne (tgt := 82) X dX12_known_65 (by decide) hf (fun hc hf => ?_) (fun hc hf => ?_)
  · exact w_X12_known_b82 X hw (lv_sub hl [1, 0] rfl) hf
  · refine lv_iload_n hx hb dX12_known_68 rfl (lv_at hl 0 rfl) ?_
    refine lv_iconst (v := mI (-1)) hx hb dX12_known_69 rfl ?_
    refine r_icmp_ne (tgt := 82) X dX12_known_70 (by decide) hf (fun hc hf => ?_) (fun hc hf => ?_)
    · exact w_X12_known_b82 X hw (lv_sub hl [1, 0] rfl) hf
    · refine lv_aload_n hx hb dX12_known_73 rfl (lv_at hl 1 rfl) ?_
      refine lv_iconst (v := mI 3) hx hb dX12_known_74 rfl ?_
      refine lv_aload_n hx hb dX12_known_75 rfl (lv_at hl 1 rfl) ?_
      refine r_geti X hw sh_86 fd_12_4 rfl lf_X12_23 dX12_known_76 ?_
      refine r_cvv (rest := []) [.int (mI 3), .int (mI (σ 86 4))] X hw (fun ra σa h => c_X12_blame l D cy ad bs F 3 (σ 86 4) σ ra σa  h) sh_86 rfl (by decide) rfl km_X12_blame kv_X12_blame lm_X12_242 dX12_known_79 hl.1 rfl rfl (Nat.le_of_ble_eq_true rfl) ⟨by decide, by decide⟩ ⟨Nat.zero_le _, Nat.zero_le _⟩ hf (fun r309 σ310 _ hf H locs hw => ?_)
      exact w_X12_known_b82 X hw (lv_sub hl [1, 0] rfl) hf
def g_X12_known_b41 (F : Nat)  (σ : mMem) : mRs := if mw (σ 86 8) ≤ 0 then (mob (g_X12_named F (σ 86 7) σ) (fun r105 σ106 => g_X12_known_b60 F r105 σ106)) else (g_X12_known_b60 F 0 σ)
set_option maxRecDepth 100000 in
set_option maxHeartbeats 4000000 in
theorem w_X12_known_b41 {p : Program} {l : Launch} {e : Env} {s : State} {m : MethodId} {args : Array Value} {below : List Frame} {meth : Method} {c : Code} {D : va_G} {cy : Nat → ClassId} {ad : Nat → Nat} {bs : Nat} {F : Nat}  (X : mCx p m c cX12_known 2 s args RX12 meth D cy (some .int))  {r : Int} {σ' : mMem}    {σ : mMem} {H : Heap} {locs : List Loc} {ls : Array Slot} (hw : mWd D cy ad bs true mN σ s.heap H locs) (hl : lv_has ls 2 [(0, .ref (ad 86))]) (hf : g_X12_known_b41 F  σ = some (r, σ')) : mGi p l e 3 s m args below meth c D cy ad bs r σ' H locs (F0 m 41 ls []) := by
  obtain ⟨⟨hx, hb, -, -, -⟩, -⟩ := id X
  unfold g_X12_known_b41 at hf
  refine lv_aload_n hx hb dX12_known_41 rfl (lv_at hl 0 rfl) ?_
  refine r_geti X hw sh_86 fd_12_8 rfl lf_X12_36 dX12_known_42 ?_
  refine r_if_le (tgt := 52) X dX12_known_45 (by decide) hf (fun hc hf => ?_) (fun hc hf => ?_)
  · refine lv_aload_n hx hb dX12_known_52 rfl (lv_at hl 0 rfl) ?_
    refine lv_aload_n hx hb dX12_known_53 rfl (lv_at hl 0 rfl) ?_
    refine r_getl X hw sh_86 fd_12_7 rfl lf_X12_32 dX12_known_54 ?_
    refine r_cvi (rest := []) [.long (mL (σ 86 7))] X hw (fun ra σa h => c_X12_named l D cy ad bs F (σ 86 7) σ ra σa  h) sh_86 rfl (by decide) rfl km_X12_named kv_X12_named lm_X12_356 dX12_known_57 hl.1 rfl rfl (Nat.le_of_ble_eq_true rfl) ⟨by decide, by decide⟩ ⟨Nat.zero_le _, Nat.zero_le _⟩ hf (fun r105 σ106 _ hf H locs hw => ?_)
    exact w_X12_known_b60 X hw (lv_sub hl [0] rfl) hf
  · refine lv_iconst (v := mI 0) hx hb dX12_known_48 rfl ?_
    refine lv_goto (tgt := 60) hx hb dX12_known_49 (by decide) ?_
    exact w_X12_known_b60 X hw (lv_sub hl [0] rfl) hf
def g_X12_known_b32 (F : Nat)  (σ : mMem) : mRs := mob (g_X12_blame F 1 (σ 86 4) σ) (fun r207 σ208 => g_X12_known_b41 F σ208)
set_option maxRecDepth 100000 in
set_option maxHeartbeats 4000000 in
theorem w_X12_known_b32 {p : Program} {l : Launch} {e : Env} {s : State} {m : MethodId} {args : Array Value} {below : List Frame} {meth : Method} {c : Code} {D : va_G} {cy : Nat → ClassId} {ad : Nat → Nat} {bs : Nat} {F : Nat}  (X : mCx p m c cX12_known 2 s args RX12 meth D cy (some .int))  {r : Int} {σ' : mMem}    {σ : mMem} {H : Heap} {locs : List Loc} {ls : Array Slot} (hw : mWd D cy ad bs true mN σ s.heap H locs) (hl : lv_has ls 2 [(0, .ref (ad 86))]) (hf : g_X12_known_b32 F  σ = some (r, σ')) : mGi p l e 3 s m args below meth c D cy ad bs r σ' H locs (F0 m 32 ls []) := by
  obtain ⟨⟨hx, hb, -, -, -⟩, -⟩ := id X
  unfold g_X12_known_b32 at hf
  refine lv_aload_n hx hb dX12_known_32 rfl (lv_at hl 0 rfl) ?_
  refine lv_iconst (v := mI 1) hx hb dX12_known_33 rfl ?_
  refine lv_aload_n hx hb dX12_known_34 rfl (lv_at hl 0 rfl) ?_
  refine r_geti X hw sh_86 fd_12_4 rfl lf_X12_23 dX12_known_35 ?_
  refine r_cvv (rest := []) [.int (mI 1), .int (mI (σ 86 4))] X hw (fun ra σa h => c_X12_blame l D cy ad bs F 1 (σ 86 4) σ ra σa  h) sh_86 rfl (by decide) rfl km_X12_blame kv_X12_blame lm_X12_242 dX12_known_38 hl.1 rfl rfl (Nat.le_of_ble_eq_true rfl) ⟨by decide, by decide⟩ ⟨Nat.zero_le _, Nat.zero_le _⟩ hf (fun r207 σ208 _ hf H locs hw => ?_)
  exact w_X12_known_b41 X hw (lv_sub hl [0] rfl) hf
def g_X12_known (F : Nat) (σ : mMem) : mRs := mob (g_X12_lex F σ) (fun r1 σ2 => if mw (σ2 86 8) ≤ 0 then (if ¬ mw (σ2 86 3) = mw 1 then (g_X12_known_b32 F σ2) else (mob (g_X12_isOwn F (σ2 86 7) σ2) (fun r3 σ4 => if mw r3 = 0 then (g_X12_known_b41 F σ4) else (g_X12_known_b32 F σ4)))) else (some (0, σ2)))
set_option maxRecDepth 100000 in
set_option maxHeartbeats 4000000 in
theorem c_X12_known (l : Launch) (D : va_G) (cy : Nat → ClassId) (ad : Nat → Nat) (bs : Nat) (F : Nat)   (σ : mMem) (r : Int) (σ' : mMem)  (hf : g_X12_known F  σ = some (r, σ')) : mCi l D cy ad bs yX12_known cX12_known 2 (some .int) 3 [.ref (ad 86)] σ r σ' := by
  refine mCi.of (lv := [(0, .ref (ad 86))]) km_X12_known.2.2.2.2.2 (Nat.le_of_ble_eq_true rfl) rfl (fun p e s m args below meth c H locs ls X hw hl => ?_)
  obtain ⟨⟨hx, hb, -, -, -⟩, -⟩ := id X
  unfold g_X12_known at hf
  refine lv_aload_n hx hb dX12_known_0 rfl (lv_at hl 0 rfl) ?_
  refine r_cvv (rest := []) [] X hw (fun ra σa h => c_X12_lex l D cy ad bs F σ ra σa  h) sh_86 rfl (by decide) rfl km_X12_lex kv_X12_lex lm_X12_253 dX12_known_1 hl.1 rfl rfl (Nat.le_of_ble_eq_true rfl) ⟨by decide, by decide⟩ ⟨Nat.zero_le _, Nat.zero_le _⟩ hf (fun r1 σ2 _ hf H locs hw => ?_)
  refine lv_aload_n hx hb dX12_known_4 rfl (lv_at hl 0 rfl) ?_
  refine r_geti X hw sh_86 fd_12_8 rfl lf_X12_36 dX12_known_5 ?_
  refine r_if_le (tgt := 13) X dX12_known_8 (by decide) hf (fun hc hf => ?_) (fun hc hf => ?_)
  · refine lv_aload_n hx hb dX12_known_13 rfl (lv_at hl 0 rfl) ?_
    refine r_geti X hw sh_86 fd_12_3 rfl lf_X12_20 dX12_known_14 ?_
    refine lv_iconst (v := mI 1) hx hb dX12_known_17 rfl ?_
    refine r_icmp_ne (tgt := 32) X dX12_known_18 (by decide) hf (fun hc hf => ?_) (fun hc hf => ?_)
    · exact w_X12_known_b32 X hw (lv_sub hl [0] rfl) hf
    · refine lv_aload_n hx hb dX12_known_21 rfl (lv_at hl 0 rfl) ?_
      refine lv_aload_n hx hb dX12_known_22 rfl (lv_at hl 0 rfl) ?_
      refine r_getl X hw sh_86 fd_12_7 rfl lf_X12_32 dX12_known_23 ?_
      refine r_cvi (rest := []) [.long (mL (σ2 86 7))] X hw (fun ra σa h => c_X12_isOwn l D cy ad bs F (σ2 86 7) σ2 ra σa  h) sh_86 rfl (by decide) rfl km_X12_isOwn kv_X12_isOwn lm_X12_353 dX12_known_26 hl.1 rfl rfl (Nat.le_of_ble_eq_true rfl) ⟨by decide, by decide⟩ ⟨Nat.zero_le _, Nat.zero_le _⟩ hf (fun r3 σ4 _ hf H locs hw => ?_)
      refine r_if_eq (tgt := 41) X dX12_known_29 (by decide) hf (fun hc hf => ?_) (fun hc hf => ?_)
      · exact w_X12_known_b41 X hw (lv_sub hl [0] rfl) hf
      · exact w_X12_known_b32 X hw (lv_sub hl [0] rfl) hf
  · refine lv_iconst (v := mI 0) hx hb dX12_known_11 rfl ?_
    exact r_iret X hw dX12_known_12 hf
def g_X12_begins_h48 (F : Nat)  : Nat → Int → mMem → mRs
  | 0, _, _ => none
  | n + 1, x1, σ => if mw 81 ≤ mw x1 then (some (0, σ)) else (if 0 ≤ mw ((81 * (σ 86 30)) + x1) ∧ mw ((81 * (σ 86 30)) + x1) < (162 : Int) then mlm (mup σ 90 (mw ((81 * (σ 86 30)) + x1)).toNat 0) (fun σ111 => (g_X12_begins_h48 F n) (x1 + 1) σ111) else none)
set_option maxRecDepth 100000 in
set_option maxHeartbeats 4000000 in
theorem w_X12_begins_h48 {p : Program} {l : Launch} {e : Env} {s : State} {m : MethodId} {args : Array Value} {below : List Frame} {meth : Method} {c : Code} {D : va_G} {cy : Nat → ClassId} {ad : Nat → Nat} {bs : Nat} {F : Nat}  (X : mCx p m c cX12_begins 2 s args RX12 meth D cy none)  {r : Int} {σ' : mMem}   (n : Nat) : ∀ {x1 : Int} {σ : mMem} {H : Heap} {locs : List Loc} {ls : Array Slot} (_ : mWd D cy ad bs true mN σ s.heap H locs) (_ : lv_has ls 2 [(0, .ref (ad 86)), (1, .int (mI x1))]) (_ : g_X12_begins_h48 F n x1 σ = some (r, σ')), mGv p l e 4 s m args below meth c D cy ad bs σ' H locs (F0 m 48 ls []) := by
  obtain ⟨⟨hx, hb, -, -, -⟩, -⟩ := id X
  induction n with
  | zero =>
    intro x1 σ H locs ls hw hl hf
    unfold g_X12_begins_h48 at hf
    cases hf
  | succ n ih =>
    have hk48 : ∀ (x1 : Int) (σ : mMem) (H : Heap) (locs : List Loc) (ls : Array Slot), mWd D cy ad bs true mN σ s.heap H locs → lv_has ls 2 [(0, .ref (ad 86)), (1, .int (mI x1))] → g_X12_begins_h48 F n x1 σ = some (r, σ') → mGv p l e 4 s m args below meth c D cy ad bs σ' H locs (F0 m 48 ls []) := fun x1 σ H locs ls hw hl hf => ih hw hl hf
    intro x1 σ H locs ls hw hl hf
    unfold g_X12_begins_h48 at hf
    refine lv_iload_n hx hb dX12_begins_48 rfl (lv_at hl 1 rfl) ?_
    refine lv_bipush (v := mI 81) hx hb dX12_begins_49 (by decide) ?_
    refine r_icmp_ge (tgt := 75) X dX12_begins_51 (by decide) hf (fun hc hf => ?_) (fun hc hf => ?_)
    · exact r_vret X hw dX12_begins_75 hf
    · refine lv_aload_n hx hb dX12_begins_54 rfl (lv_at hl 0 rfl) ?_
      refine r_getr 90 X hw sh_86 fd_12_16 rfl rfl lf_X12_60 dX12_begins_55 ?_
      refine lv_bipush (v := mI 81) hx hb dX12_begins_58 (by decide) ?_
      refine lv_aload_n hx hb dX12_begins_60 rfl (lv_at hl 0 rfl) ?_
      refine r_geti X hw sh_86 fd_12_30 rfl lf_X12_103 dX12_begins_61 ?_
      refine r_imul X dX12_begins_64 ?_
      refine lv_iload_n hx hb dX12_begins_65 rfl (lv_at hl 1 rfl) ?_
      refine r_iadd X dX12_begins_66 ?_
      refine lv_iconst (v := mI 0) hx hb dX12_begins_67 rfl ?_
      refine r_iast (162 : Int) rfl X hw sh_90 dX12_begins_68 hf (fun hf H locs hw => ?_)
      refine r_mem hf hw (fun σ111 hw hf => ?_)
      refine lv_iinc (v := mI (x1 + 1)) (lv' := [(1, .int (mI (x1 + 1))), (0, .ref (ad 86))]) hx hb dX12_begins_69 hl (k := 1) rfl (mI_add _ _) (by decide) rfl (fun ls hl => ?_)
      refine lv_goto (tgt := 48) hx hb dX12_begins_72 (by decide) ?_
      exact hk48 (x1 + 1) σ111 _ _ _ hw (lv_sub hl [1, 0] rfl) hf
def g_X12_begins (F : Nat) (σ : mMem) : mRs := mob (g_X12_must_ F 439905906546 σ) (fun r1 σ2 => mob (g_X12_number F 2 9 σ2) (fun r3 σ4 => if 0 ≤ mw (σ2 86 30) ∧ mw (σ2 86 30) < (2 : Int) then mlm (mup σ4 88 (mw (σ2 86 30)).toNat r3) (fun σ5 => mob (g_X12_must_ F 25209 σ5) (fun r6 σ7 => mob (g_X12_number F 2 9 σ7) (fun r8 σ9 => if 0 ≤ mw (σ7 86 30) ∧ mw (σ7 86 30) < (2 : Int) then mlm (mup σ9 89 (mw (σ7 86 30)).toNat r8) (fun σ10 => g_X12_begins_h48 F F 0 σ10) else none))) else none))
set_option maxRecDepth 100000 in
set_option maxHeartbeats 4000000 in
theorem c_X12_begins (l : Launch) (D : va_G) (cy : Nat → ClassId) (ad : Nat → Nat) (bs : Nat) (F : Nat)   (σ : mMem) (r : Int) (σ' : mMem)  (hf : g_X12_begins F  σ = some (r, σ')) : mCv l D cy ad bs yX12_begins cX12_begins 2 none 4 [.ref (ad 86)] σ σ' := by
  refine mCv.of (lv := [(0, .ref (ad 86))]) km_X12_begins.2.2.2.2.2 (Nat.le_of_ble_eq_true rfl) rfl (fun p e s m args below meth c H locs ls X hw hl => ?_)
  obtain ⟨⟨hx, hb, -, -, -⟩, -⟩ := id X
  unfold g_X12_begins at hf
  refine lv_aload_n hx hb dX12_begins_0 rfl (lv_at hl 0 rfl) ?_
  refine r_ldc2 (z := 439905906546) (by decide) X lc_X12_262 dX12_begins_1 ?_
  refine r_cvv (rest := []) [.long (mL 439905906546)] X hw (fun ra σa h => c_X12_must_ l D cy ad bs F 439905906546 σ ra σa  h) sh_86 rfl (by decide) rfl km_X12_must_ kv_X12_must_ lm_X12_360 dX12_begins_4 hl.1 rfl rfl (Nat.le_of_ble_eq_true rfl) ⟨by decide, by decide⟩ ⟨Nat.zero_le _, Nat.zero_le _⟩ hf (fun r1 σ2 _ hf H locs hw => ?_)
  refine lv_aload_n hx hb dX12_begins_7 rfl (lv_at hl 0 rfl) ?_
  refine r_getr 88 X hw sh_86 fd_12_14 rfl rfl lf_X12_54 dX12_begins_8 ?_
  refine lv_aload_n hx hb dX12_begins_11 rfl (lv_at hl 0 rfl) ?_
  refine r_geti X hw sh_86 fd_12_30 rfl lf_X12_103 dX12_begins_12 ?_
  refine lv_aload_n hx hb dX12_begins_15 rfl (lv_at hl 0 rfl) ?_
  refine lv_iconst (v := mI 2) hx hb dX12_begins_16 rfl ?_
  refine lv_bipush (v := mI 9) hx hb dX12_begins_17 (by decide) ?_
  refine r_cvi (rest := [.int (mI (σ2 86 30)), .ref (ad 88)]) [.int (mI 2), .int (mI 9)] X hw (fun ra σa h => c_X12_number l D cy ad bs F 2 9 σ2 ra σa  h) sh_86 rfl (by decide) rfl km_X12_number kv_X12_number lm_X12_364 dX12_begins_19 hl.1 rfl rfl (Nat.le_of_ble_eq_true rfl) ⟨by decide, by decide⟩ ⟨Nat.zero_le _, Nat.zero_le _⟩ hf (fun r3 σ4 _ hf H locs hw => ?_)
  refine r_iast (2 : Int) rfl X hw sh_88 dX12_begins_22 hf (fun hf H locs hw => ?_)
  refine r_mem hf hw (fun σ5 hw hf => ?_)
  refine lv_aload_n hx hb dX12_begins_23 rfl (lv_at hl 0 rfl) ?_
  refine r_ldc2 (z := 25209) (by decide) X lc_X12_264 dX12_begins_24 ?_
  refine r_cvv (rest := []) [.long (mL 25209)] X hw (fun ra σa h => c_X12_must_ l D cy ad bs F 25209 σ5 ra σa  h) sh_86 rfl (by decide) rfl km_X12_must_ kv_X12_must_ lm_X12_360 dX12_begins_27 hl.1 rfl rfl (Nat.le_of_ble_eq_true rfl) ⟨by decide, by decide⟩ ⟨Nat.zero_le _, Nat.zero_le _⟩ hf (fun r6 σ7 _ hf H locs hw => ?_)
  refine lv_aload_n hx hb dX12_begins_30 rfl (lv_at hl 0 rfl) ?_
  refine r_getr 89 X hw sh_86 fd_12_15 rfl rfl lf_X12_57 dX12_begins_31 ?_
  refine lv_aload_n hx hb dX12_begins_34 rfl (lv_at hl 0 rfl) ?_
  refine r_geti X hw sh_86 fd_12_30 rfl lf_X12_103 dX12_begins_35 ?_
  refine lv_aload_n hx hb dX12_begins_38 rfl (lv_at hl 0 rfl) ?_
  refine lv_iconst (v := mI 2) hx hb dX12_begins_39 rfl ?_
  refine lv_bipush (v := mI 9) hx hb dX12_begins_40 (by decide) ?_
  refine r_cvi (rest := [.int (mI (σ7 86 30)), .ref (ad 89)]) [.int (mI 2), .int (mI 9)] X hw (fun ra σa h => c_X12_number l D cy ad bs F 2 9 σ7 ra σa  h) sh_86 rfl (by decide) rfl km_X12_number kv_X12_number lm_X12_364 dX12_begins_42 hl.1 rfl rfl (Nat.le_of_ble_eq_true rfl) ⟨by decide, by decide⟩ ⟨Nat.zero_le _, Nat.zero_le _⟩ hf (fun r8 σ9 _ hf H locs hw => ?_)
  refine r_iast (2 : Int) rfl X hw sh_89 dX12_begins_45 hf (fun hf H locs hw => ?_)
  refine r_mem hf hw (fun σ10 hw hf => ?_)
  refine lv_iconst (v := mI 0) hx hb dX12_begins_46 rfl ?_
  refine lv_istore_n (lv' := [(1, .int (mI 0)), (0, .ref (ad 86))]) hx hb dX12_begins_47 rfl hl (by decide) rfl (fun ls hl => ?_)
  exact w_X12_begins_h48 X _ hw (lv_sub hl [1, 0] rfl) hf
def g_X12_greying_b78 (F : Nat)  (σ : mMem) : mRs := some (0, σ)
set_option maxRecDepth 100000 in
set_option maxHeartbeats 4000000 in
theorem w_X12_greying_b78 {p : Program} {l : Launch} {e : Env} {s : State} {m : MethodId} {args : Array Value} {below : List Frame} {meth : Method} {c : Code} {D : va_G} {cy : Nat → ClassId} {ad : Nat → Nat} {bs : Nat} {F : Nat}  (X : mCx p m c cX12_greying 4 s args RX12 meth D cy none)  {r : Int} {σ' : mMem}    {σ : mMem} {H : Heap} {locs : List Loc} {ls : Array Slot} (hw : mWd D cy ad bs true mN σ s.heap H locs) (hl : lv_has ls 4 [(0, .ref (ad 86))]) (hf : g_X12_greying_b78 F  σ = some (r, σ')) : mGv p l e 4 s m args below meth c D cy ad bs σ' H locs (F0 m 78 ls []) := by
  obtain ⟨⟨hx, hb, -, -, -⟩, -⟩ := id X
  unfold g_X12_greying_b78 at hf
  exact r_vret X hw dX12_greying_78 hf
def g_X12_greying (F : Nat) (σ : mMem) : mRs := mob (g_X12_counts F 0 σ) (fun r1 σ2 => if ¬ mw r1 = 0 then (if 0 ≤ mw (σ2 86 30) ∧ mw (σ2 86 30) < (2 : Int) then mob (g_X12_number F 0 ((σ2 88 (mw (σ2 86 30)).toNat) - 1) σ2) (fun r3 σ4 => if 0 ≤ mw (σ4 86 30) ∧ mw (σ4 86 30) < (2 : Int) then mob (g_X12_number F 0 ((σ4 89 (mw (σ4 86 30)).toNat) - 1) σ4) (fun r5 σ6 => mob (g_X12_number F 0 9 σ6) (fun r7 σ8 => if ¬ mw (σ8 86 8) = 0 then (g_X12_greying_b78 F σ8) else (if 0 ≤ mw (((81 * (σ8 86 30)) + (9 * r5)) + r3) ∧ mw (((81 * (σ8 86 30)) + (9 * r5)) + r3) < (162 : Int) then mlm (mup σ8 90 (mw (((81 * (σ8 86 30)) + (9 * r5)) + r3)).toNat r7) (fun σ9 => g_X12_greying_b78 F σ9) else none))) else none) else none) else (some (0, σ2)))
set_option maxRecDepth 100000 in
set_option maxHeartbeats 4000000 in
theorem c_X12_greying (l : Launch) (D : va_G) (cy : Nat → ClassId) (ad : Nat → Nat) (bs : Nat) (F : Nat)   (σ : mMem) (r : Int) (σ' : mMem)  (hf : g_X12_greying F  σ = some (r, σ')) : mCv l D cy ad bs yX12_greying cX12_greying 4 none 4 [.ref (ad 86)] σ σ' := by
  refine mCv.of (lv := [(0, .ref (ad 86))]) km_X12_greying.2.2.2.2.2 (Nat.le_of_ble_eq_true rfl) rfl (fun p e s m args below meth c H locs ls X hw hl => ?_)
  obtain ⟨⟨hx, hb, -, -, -⟩, -⟩ := id X
  unfold g_X12_greying at hf
  refine lv_aload_n hx hb dX12_greying_0 rfl (lv_at hl 0 rfl) ?_
  refine lv_iconst (v := mI 0) hx hb dX12_greying_1 rfl ?_
  refine r_cvi (rest := []) [.int (mI 0)] X hw (fun ra σa h => c_X12_counts l D cy ad bs F 0 σ ra σa  h) sh_86 rfl (by decide) rfl km_X12_counts kv_X12_counts lm_X12_368 dX12_greying_2 hl.1 rfl rfl (Nat.le_of_ble_eq_true rfl) ⟨by decide, by decide⟩ ⟨Nat.zero_le _, Nat.zero_le _⟩ hf (fun r1 σ2 _ hf H locs hw => ?_)
  refine r_if_ne (tgt := 9) X dX12_greying_5 (by decide) hf (fun hc hf => ?_) (fun hc hf => ?_)
  · refine lv_aload_n hx hb dX12_greying_9 rfl (lv_at hl 0 rfl) ?_
    refine lv_iconst (v := mI 0) hx hb dX12_greying_10 rfl ?_
    refine lv_aload_n hx hb dX12_greying_11 rfl (lv_at hl 0 rfl) ?_
    refine r_getr 88 X hw sh_86 fd_12_14 rfl rfl lf_X12_54 dX12_greying_12 ?_
    refine lv_aload_n hx hb dX12_greying_15 rfl (lv_at hl 0 rfl) ?_
    refine r_geti X hw sh_86 fd_12_30 rfl lf_X12_103 dX12_greying_16 ?_
    refine r_iald (2 : Int) rfl X hw sh_88 dX12_greying_19 hf (fun hf => ?_)
    refine lv_iconst (v := mI 1) hx hb dX12_greying_20 rfl ?_
    refine r_isub X dX12_greying_21 ?_
    refine r_cvi (rest := []) [.int (mI 0), .int (mI ((σ2 88 (mw (σ2 86 30)).toNat) - 1))] X hw (fun ra σa h => c_X12_number l D cy ad bs F 0 ((σ2 88 (mw (σ2 86 30)).toNat) - 1) σ2 ra σa  h) sh_86 rfl (by decide) rfl km_X12_number kv_X12_number lm_X12_364 dX12_greying_22 hl.1 rfl rfl (Nat.le_of_ble_eq_true rfl) ⟨by decide, by decide⟩ ⟨Nat.zero_le _, Nat.zero_le _⟩ hf (fun r3 σ4 _ hf H locs hw => ?_)
    refine lv_istore_n (lv' := [(1, .int (mI r3)), (0, .ref (ad 86))]) hx hb dX12_greying_25 rfl hl (by decide) rfl (fun ls hl => ?_)
    refine lv_aload_n hx hb dX12_greying_26 rfl (lv_at hl 1 rfl) ?_
    refine lv_iconst (v := mI 0) hx hb dX12_greying_27 rfl ?_
    refine lv_aload_n hx hb dX12_greying_28 rfl (lv_at hl 1 rfl) ?_
    refine r_getr 89 X hw sh_86 fd_12_15 rfl rfl lf_X12_57 dX12_greying_29 ?_
    refine lv_aload_n hx hb dX12_greying_32 rfl (lv_at hl 1 rfl) ?_
    refine r_geti X hw sh_86 fd_12_30 rfl lf_X12_103 dX12_greying_33 ?_
    refine r_iald (2 : Int) rfl X hw sh_89 dX12_greying_36 hf (fun hf => ?_)
    refine lv_iconst (v := mI 1) hx hb dX12_greying_37 rfl ?_
    refine r_isub X dX12_greying_38 ?_
    refine r_cvi (rest := []) [.int (mI 0), .int (mI ((σ4 89 (mw (σ4 86 30)).toNat) - 1))] X hw (fun ra σa h => c_X12_number l D cy ad bs F 0 ((σ4 89 (mw (σ4 86 30)).toNat) - 1) σ4 ra σa  h) sh_86 rfl (by decide) rfl km_X12_number kv_X12_number lm_X12_364 dX12_greying_39 hl.1 rfl rfl (Nat.le_of_ble_eq_true rfl) ⟨by decide, by decide⟩ ⟨Nat.zero_le _, Nat.zero_le _⟩ hf (fun r5 σ6 _ hf H locs hw => ?_)
    refine lv_istore_n (lv' := [(2, .int (mI r5)), (1, .int (mI r3)), (0, .ref (ad 86))]) hx hb dX12_greying_42 rfl hl (by decide) rfl (fun ls hl => ?_)
    refine lv_aload_n hx hb dX12_greying_43 rfl (lv_at hl 2 rfl) ?_
    refine lv_iconst (v := mI 0) hx hb dX12_greying_44 rfl ?_
    refine lv_bipush (v := mI 9) hx hb dX12_greying_45 (by decide) ?_
    refine r_cvi (rest := []) [.int (mI 0), .int (mI 9)] X hw (fun ra σa h => c_X12_number l D cy ad bs F 0 9 σ6 ra σa  h) sh_86 rfl (by decide) rfl km_X12_number kv_X12_number lm_X12_364 dX12_greying_47 hl.1 rfl rfl (Nat.le_of_ble_eq_true rfl) ⟨by decide, by decide⟩ ⟨Nat.zero_le _, Nat.zero_le _⟩ hf (fun r7 σ8 _ hf H locs hw => ?_)
    refine lv_istore_n (lv' := [(3, .int (mI r7)), (2, .int (mI r5)), (1, .int (mI r3)), (0, .ref (ad 86))]) hx hb dX12_greying_50 rfl hl (by decide) rfl (fun ls hl => ?_)
    refine lv_aload_n hx hb dX12_greying_51 rfl (lv_at hl 3 rfl) ?_
    refine r_geti X hw sh_86 fd_12_8 rfl lf_X12_36 dX12_greying_52 ?_
    refine r_if_ne (tgt := 78) X dX12_greying_55 (by decide) hf (fun hc hf => ?_) (fun hc hf => ?_)
    · exact w_X12_greying_b78 X hw (lv_sub hl [3] rfl) hf
    · refine lv_aload_n hx hb dX12_greying_58 rfl (lv_at hl 3 rfl) ?_
      refine r_getr 90 X hw sh_86 fd_12_16 rfl rfl lf_X12_60 dX12_greying_59 ?_
      refine lv_bipush (v := mI 81) hx hb dX12_greying_62 (by decide) ?_
      refine lv_aload_n hx hb dX12_greying_64 rfl (lv_at hl 3 rfl) ?_
      refine r_geti X hw sh_86 fd_12_30 rfl lf_X12_103 dX12_greying_65 ?_
      refine r_imul X dX12_greying_68 ?_
      refine lv_bipush (v := mI 9) hx hb dX12_greying_69 (by decide) ?_
      refine lv_iload_n hx hb dX12_greying_71 rfl (lv_at hl 1 rfl) ?_
      refine r_imul X dX12_greying_72 ?_
      refine r_iadd X dX12_greying_73 ?_
      refine lv_iload_n hx hb dX12_greying_74 rfl (lv_at hl 2 rfl) ?_
      refine r_iadd X dX12_greying_75 ?_
      refine lv_iload_n hx hb dX12_greying_76 rfl (lv_at hl 0 rfl) ?_
      refine r_iast (162 : Int) rfl X hw sh_90 dX12_greying_77 hf (fun hf H locs hw => ?_)
      refine r_mem hf hw (fun σ9 hw hf => ?_)
      exact w_X12_greying_b78 X hw (lv_sub hl [3] rfl) hf
  · exact r_vret X hw dX12_greying_8 hf
def g_X12_boxing_b240 (F : Nat)  (σ : mMem) : mRs := some (0, σ)
set_option maxRecDepth 100000 in
set_option maxHeartbeats 4000000 in
theorem w_X12_boxing_b240 {p : Program} {l : Launch} {e : Env} {s : State} {m : MethodId} {args : Array Value} {below : List Frame} {meth : Method} {c : Code} {D : va_G} {cy : Nat → ClassId} {ad : Nat → Nat} {bs : Nat} {F : Nat}  (X : mCx p m c cX12_boxing 6 s args RX12 meth D cy none)  {r : Int} {σ' : mMem}    {σ : mMem} {H : Heap} {locs : List Loc} {ls : Array Slot} (hw : mWd D cy ad bs true mN σ s.heap H locs) (hl : lv_has ls 6 [(0, .ref (ad 86))]) (hf : g_X12_boxing_b240 F  σ = some (r, σ')) : mGv p l e 4 s m args below meth c D cy ad bs σ' H locs (F0 m 240 ls []) := by
  obtain ⟨⟨hx, hb, -, -, -⟩, -⟩ := id X
  unfold g_X12_boxing_b240 at hf
  exact r_vret X hw dX12_boxing_240 hf
def g_X12_boxing_b167 (F : Nat)  (x1 x2 x4 : Int) (σ : mMem) : mRs := if 0 ≤ mw x1 ∧ mw x1 < (12 : Int) then mlm (mup σ 92 (mw x1).toNat ((9 * x4) + x2)) (fun σ318 => mob (g_X12_must_ F 7823737 σ318) (fun r319 σ320 => mob (g_X12_number F 0 3 σ320) (fun r321 σ322 => if 0 ≤ mw x1 ∧ mw x1 < (12 : Int) then mlm (mup σ322 93 (mw x1).toNat r321) (fun σ323 => if 0 ≤ mw x1 ∧ mw x1 < (12 : Int) then mlm (mup σ323 94 (mw x1).toNat 1) (fun σ324 => if 0 ≤ mw x1 ∧ mw x1 < (12 : Int) then mlm (mup σ324 95 (mw x1).toNat 1) (fun σ325 => if 0 ≤ mw x1 ∧ mw x1 < (12 : Int) then mlm (mup σ325 96 (mw x1).toNat 0) (fun σ326 => if ¬ mw (σ326 86 8) = 0 then (g_X12_boxing_b240 F σ326) else (if 0 ≤ mw (σ326 86 30) ∧ mw (σ326 86 30) < (2 : Int) then if 0 ≤ mw (σ326 86 30) ∧ mw (σ326 86 30) < (2 : Int) then mlm (mup σ326 91 (mw (σ326 86 30)).toNat ((σ326 91 (mw (σ326 86 30)).toNat) + 1)) (fun σ327 => g_X12_boxing_b240 F σ327) else none else none)) else none) else none) else none) else none))) else none
set_option maxRecDepth 100000 in
set_option maxHeartbeats 4000000 in
theorem w_X12_boxing_b167 {p : Program} {l : Launch} {e : Env} {s : State} {m : MethodId} {args : Array Value} {below : List Frame} {meth : Method} {c : Code} {D : va_G} {cy : Nat → ClassId} {ad : Nat → Nat} {bs : Nat} {F : Nat}  (X : mCx p m c cX12_boxing 6 s args RX12 meth D cy none)  {r : Int} {σ' : mMem}   {x1 x2 x4 : Int} {σ : mMem} {H : Heap} {locs : List Loc} {ls : Array Slot} (hw : mWd D cy ad bs true mN σ s.heap H locs) (hl : lv_has ls 6 [(0, .ref (ad 86)), (1, .int (mI x1)), (2, .int (mI x2)), (4, .int (mI x4))]) (hf : g_X12_boxing_b167 F x1 x2 x4 σ = some (r, σ')) : mGv p l e 4 s m args below meth c D cy ad bs σ' H locs (F0 m 167 ls []) := by
  obtain ⟨⟨hx, hb, -, -, -⟩, -⟩ := id X
  unfold g_X12_boxing_b167 at hf
  refine lv_aload_n hx hb dX12_boxing_167 rfl (lv_at hl 0 rfl) ?_
  refine r_getr 92 X hw sh_86 fd_12_18 rfl rfl lf_X12_66 dX12_boxing_168 ?_
  refine lv_iload_n hx hb dX12_boxing_171 rfl (lv_at hl 1 rfl) ?_
  refine lv_bipush (v := mI 9) hx hb dX12_boxing_172 (by decide) ?_
  refine lv_iload hx hb dX12_boxing_174 (lv_at hl 3 rfl) ?_
  refine r_imul X dX12_boxing_176 ?_
  refine lv_iload_n hx hb dX12_boxing_177 rfl (lv_at hl 2 rfl) ?_
  refine r_iadd X dX12_boxing_178 ?_
  refine r_iast (12 : Int) rfl X hw sh_92 dX12_boxing_179 hf (fun hf H locs hw => ?_)
  refine r_mem hf hw (fun σ318 hw hf => ?_)
  refine lv_aload_n hx hb dX12_boxing_180 rfl (lv_at hl 0 rfl) ?_
  refine r_ldc2 (z := 7823737) (by decide) X lc_X12_272 dX12_boxing_181 ?_
  refine r_cvv (rest := []) [.long (mL 7823737)] X hw (fun ra σa h => c_X12_must_ l D cy ad bs F 7823737 σ318 ra σa  h) sh_86 rfl (by decide) rfl km_X12_must_ kv_X12_must_ lm_X12_360 dX12_boxing_184 hl.1 rfl rfl (Nat.le_of_ble_eq_true rfl) ⟨by decide, by decide⟩ ⟨Nat.zero_le _, Nat.zero_le _⟩ hf (fun r319 σ320 _ hf H locs hw => ?_)
  refine lv_aload_n hx hb dX12_boxing_187 rfl (lv_at hl 0 rfl) ?_
  refine r_getr 93 X hw sh_86 fd_12_19 rfl rfl lf_X12_69 dX12_boxing_188 ?_
  refine lv_iload_n hx hb dX12_boxing_191 rfl (lv_at hl 1 rfl) ?_
  refine lv_aload_n hx hb dX12_boxing_192 rfl (lv_at hl 0 rfl) ?_
  refine lv_iconst (v := mI 0) hx hb dX12_boxing_193 rfl ?_
  refine lv_iconst (v := mI 3) hx hb dX12_boxing_194 rfl ?_
  refine r_cvi (rest := [.int (mI x1), .ref (ad 93)]) [.int (mI 0), .int (mI 3)] X hw (fun ra σa h => c_X12_number l D cy ad bs F 0 3 σ320 ra σa  h) sh_86 rfl (by decide) rfl km_X12_number kv_X12_number lm_X12_364 dX12_boxing_195 hl.1 rfl rfl (Nat.le_of_ble_eq_true rfl) ⟨by decide, by decide⟩ ⟨Nat.zero_le _, Nat.zero_le _⟩ hf (fun r321 σ322 _ hf H locs hw => ?_)
  refine r_iast (12 : Int) rfl X hw sh_93 dX12_boxing_198 hf (fun hf H locs hw => ?_)
  refine r_mem hf hw (fun σ323 hw hf => ?_)
  refine lv_aload_n hx hb dX12_boxing_199 rfl (lv_at hl 0 rfl) ?_
  refine r_getr 94 X hw sh_86 fd_12_20 rfl rfl lf_X12_72 dX12_boxing_200 ?_
  refine lv_iload_n hx hb dX12_boxing_203 rfl (lv_at hl 1 rfl) ?_
  refine lv_iconst (v := mI 1) hx hb dX12_boxing_204 rfl ?_
  refine r_iast (12 : Int) rfl X hw sh_94 dX12_boxing_205 hf (fun hf H locs hw => ?_)
  refine r_mem hf hw (fun σ324 hw hf => ?_)
  refine lv_aload_n hx hb dX12_boxing_206 rfl (lv_at hl 0 rfl) ?_
  refine r_getr 95 X hw sh_86 fd_12_21 rfl rfl lf_X12_75 dX12_boxing_207 ?_
  refine lv_iload_n hx hb dX12_boxing_210 rfl (lv_at hl 1 rfl) ?_
  refine lv_iconst (v := mI 1) hx hb dX12_boxing_211 rfl ?_
  refine r_iast (12 : Int) rfl X hw sh_95 dX12_boxing_212 hf (fun hf H locs hw => ?_)
  refine r_mem hf hw (fun σ325 hw hf => ?_)
  refine lv_aload_n hx hb dX12_boxing_213 rfl (lv_at hl 0 rfl) ?_
  refine r_getr 96 X hw sh_86 fd_12_22 rfl rfl lf_X12_78 dX12_boxing_214 ?_
  refine lv_iload_n hx hb dX12_boxing_217 rfl (lv_at hl 1 rfl) ?_
  refine lv_iconst (v := mI 0) hx hb dX12_boxing_218 rfl ?_
  refine r_iast (12 : Int) rfl X hw sh_96 dX12_boxing_219 hf (fun hf H locs hw => ?_)
  refine r_mem hf hw (fun σ326 hw hf => ?_)
  refine lv_aload_n hx hb dX12_boxing_220 rfl (lv_at hl 0 rfl) ?_
  refine r_geti X hw sh_86 fd_12_8 rfl lf_X12_36 dX12_boxing_221 ?_
  refine r_if_ne (tgt := 240) X dX12_boxing_224 (by decide) hf (fun hc hf => ?_) (fun hc hf => ?_)
  · exact w_X12_boxing_b240 X hw (lv_sub hl [0] rfl) hf
  · refine lv_aload_n hx hb dX12_boxing_227 rfl (lv_at hl 0 rfl) ?_
    refine r_getr 91 X hw sh_86 fd_12_17 rfl rfl lf_X12_63 dX12_boxing_228 ?_
    refine lv_aload_n hx hb dX12_boxing_231 rfl (lv_at hl 0 rfl) ?_
    refine r_geti X hw sh_86 fd_12_30 rfl lf_X12_103 dX12_boxing_232 ?_
    refine lv_dup2_11 hx hb dX12_boxing_235 rfl rfl ?_
    refine r_iald (2 : Int) rfl X hw sh_91 dX12_boxing_236 hf (fun hf => ?_)
    refine lv_iconst (v := mI 1) hx hb dX12_boxing_237 rfl ?_
    refine r_iadd X dX12_boxing_238 ?_
    refine r_iast (2 : Int) rfl X hw sh_91 dX12_boxing_239 hf (fun hf H locs hw => ?_)
    refine r_mem hf hw (fun σ327 hw hf => ?_)
    exact w_X12_boxing_b240 X hw (lv_sub hl [0] rfl) hf
def g_X12_boxing_b161 (F : Nat) (k109 : Int → Int → Int → Int → Int → mMem → mRs) (x1 x2 x3 x4 x5 : Int) (σ : mMem) : mRs := k109 x1 x2 x3 x4 (x5 + 1) σ
set_option maxRecDepth 100000 in
set_option maxHeartbeats 4000000 in
theorem w_X12_boxing_b161 {p : Program} {l : Launch} {e : Env} {s : State} {m : MethodId} {args : Array Value} {below : List Frame} {meth : Method} {c : Code} {D : va_G} {cy : Nat → ClassId} {ad : Nat → Nat} {bs : Nat} {F : Nat}  (X : mCx p m c cX12_boxing 6 s args RX12 meth D cy none)  {r : Int} {σ' : mMem} {k109 : Int → Int → Int → Int → Int → mMem → mRs} (hk109 : ∀ (x1 x2 x3 x4 x5 : Int) (σ : mMem) (H : Heap) (locs : List Loc) (ls : Array Slot), mWd D cy ad bs true mN σ s.heap H locs → lv_has ls 6 [(0, .ref (ad 86)), (1, .int (mI x1)), (2, .int (mI x2)), (3, .int (mI x3)), (4, .int (mI x4)), (5, .int (mI x5))] → k109 x1 x2 x3 x4 x5 σ = some (r, σ') → mGv p l e 4 s m args below meth c D cy ad bs σ' H locs (F0 m 109 ls [])) {x1 x2 x3 x4 x5 : Int} {σ : mMem} {H : Heap} {locs : List Loc} {ls : Array Slot} (hw : mWd D cy ad bs true mN σ s.heap H locs) (hl : lv_has ls 6 [(0, .ref (ad 86)), (1, .int (mI x1)), (2, .int (mI x2)), (3, .int (mI x3)), (4, .int (mI x4)), (5, .int (mI x5))]) (hf : g_X12_boxing_b161 F k109 x1 x2 x3 x4 x5 σ = some (r, σ')) : mGv p l e 4 s m args below meth c D cy ad bs σ' H locs (F0 m 161 ls []) := by
  obtain ⟨⟨hx, hb, -, -, -⟩, -⟩ := id X
  unfold g_X12_boxing_b161 at hf
  refine lv_iinc (v := mI (x5 + 1)) (lv' := [(5, .int (mI (x5 + 1))), (0, .ref (ad 86)), (1, .int (mI x1)), (2, .int (mI x2)), (3, .int (mI x3)), (4, .int (mI x4))]) hx hb dX12_boxing_161 hl (k := 5) rfl (mI_add _ _) (by decide) rfl (fun ls hl => ?_)
  refine lv_goto (tgt := 109) hx hb dX12_boxing_164 (by decide) ?_
  exact hk109 x1 x2 x3 x4 (x5 + 1) σ _ _ _ hw (lv_sub hl [1, 2, 3, 4, 5, 0] rfl) hf
def g_X12_boxing_h109 (F : Nat)  : Nat → Int → Int → Int → Int → Int → mMem → mRs
  | 0, _, _, _, _, _, _ => none
  | n + 1, x1, x2, x3, x4, x5, σ => if 0 ≤ mw (σ 86 30) ∧ mw (σ 86 30) < (2 : Int) then if mw (σ 91 (mw (σ 86 30)).toNat) ≤ mw x5 then (g_X12_boxing_b167 F x1 x2 x4 σ) else (if ¬ mw (σ 86 8) = 0 then (g_X12_boxing_b167 F x1 x2 x4 σ) else (if 0 ≤ mw ((6 * (σ 86 30)) + x5) ∧ mw ((6 * (σ 86 30)) + x5) < (12 : Int) then if ¬ mw (σ 92 (mw ((6 * (σ 86 30)) + x5)).toNat) = mw ((9 * x4) + x2) then (g_X12_boxing_b161 F (g_X12_boxing_h109 F n) x1 x2 x3 x4 x5 σ) else (mob (g_X12_blame F 4 x3 σ) (fun r216 σ217 => g_X12_boxing_b161 F (g_X12_boxing_h109 F n) x1 x2 x3 x4 x5 σ217)) else none)) else none
set_option maxRecDepth 100000 in
set_option maxHeartbeats 4000000 in
theorem w_X12_boxing_h109 {p : Program} {l : Launch} {e : Env} {s : State} {m : MethodId} {args : Array Value} {below : List Frame} {meth : Method} {c : Code} {D : va_G} {cy : Nat → ClassId} {ad : Nat → Nat} {bs : Nat} {F : Nat}  (X : mCx p m c cX12_boxing 6 s args RX12 meth D cy none)  {r : Int} {σ' : mMem}   (n : Nat) : ∀ {x1 x2 x3 x4 x5 : Int} {σ : mMem} {H : Heap} {locs : List Loc} {ls : Array Slot} (_ : mWd D cy ad bs true mN σ s.heap H locs) (_ : lv_has ls 6 [(0, .ref (ad 86)), (1, .int (mI x1)), (2, .int (mI x2)), (3, .int (mI x3)), (4, .int (mI x4)), (5, .int (mI x5))]) (_ : g_X12_boxing_h109 F n x1 x2 x3 x4 x5 σ = some (r, σ')), mGv p l e 4 s m args below meth c D cy ad bs σ' H locs (F0 m 109 ls []) := by
  obtain ⟨⟨hx, hb, -, -, -⟩, -⟩ := id X
  induction n with
  | zero =>
    intro x1 x2 x3 x4 x5 σ H locs ls hw hl hf
    unfold g_X12_boxing_h109 at hf
    cases hf
  | succ n ih =>
    have hk109 : ∀ (x1 x2 x3 x4 x5 : Int) (σ : mMem) (H : Heap) (locs : List Loc) (ls : Array Slot), mWd D cy ad bs true mN σ s.heap H locs → lv_has ls 6 [(0, .ref (ad 86)), (1, .int (mI x1)), (2, .int (mI x2)), (3, .int (mI x3)), (4, .int (mI x4)), (5, .int (mI x5))] → g_X12_boxing_h109 F n x1 x2 x3 x4 x5 σ = some (r, σ') → mGv p l e 4 s m args below meth c D cy ad bs σ' H locs (F0 m 109 ls []) := fun x1 x2 x3 x4 x5 σ H locs ls hw hl hf => ih hw hl hf
    intro x1 x2 x3 x4 x5 σ H locs ls hw hl hf
    unfold g_X12_boxing_h109 at hf
    refine lv_iload hx hb dX12_boxing_109 (lv_at hl 5 rfl) ?_
    refine lv_aload_n hx hb dX12_boxing_111 rfl (lv_at hl 0 rfl) ?_
    refine r_getr 91 X hw sh_86 fd_12_17 rfl rfl lf_X12_63 dX12_boxing_112 ?_
    refine lv_aload_n hx hb dX12_boxing_115 rfl (lv_at hl 0 rfl) ?_
    refine r_geti X hw sh_86 fd_12_30 rfl lf_X12_103 dX12_boxing_116 ?_
    refine r_iald (2 : Int) rfl X hw sh_91 dX12_boxing_119 hf (fun hf => ?_)
    refine r_icmp_ge (tgt := 167) X dX12_boxing_120 (by decide) hf (fun hc hf => ?_) (fun hc hf => ?_)
    · exact w_X12_boxing_b167 X hw (lv_sub hl [0, 1, 2, 4] rfl) hf
    · refine lv_aload_n hx hb dX12_boxing_123 rfl (lv_at hl 0 rfl) ?_
      refine r_geti X hw sh_86 fd_12_8 rfl lf_X12_36 dX12_boxing_124 ?_
      refine r_if_ne (tgt := 167) X dX12_boxing_127 (by decide) hf (fun hc hf => ?_) (fun hc hf => ?_)
      · exact w_X12_boxing_b167 X hw (lv_sub hl [0, 1, 2, 4] rfl) hf
      · refine lv_aload_n hx hb dX12_boxing_130 rfl (lv_at hl 0 rfl) ?_
        refine r_getr 92 X hw sh_86 fd_12_18 rfl rfl lf_X12_66 dX12_boxing_131 ?_
        refine lv_bipush (v := mI 6) hx hb dX12_boxing_134 (by decide) ?_
        refine lv_aload_n hx hb dX12_boxing_136 rfl (lv_at hl 0 rfl) ?_
        refine r_geti X hw sh_86 fd_12_30 rfl lf_X12_103 dX12_boxing_137 ?_
        refine r_imul X dX12_boxing_140 ?_
        refine lv_iload hx hb dX12_boxing_141 (lv_at hl 5 rfl) ?_
        refine r_iadd X dX12_boxing_143 ?_
        refine r_iald (12 : Int) rfl X hw sh_92 dX12_boxing_144 hf (fun hf => ?_)
        refine lv_bipush (v := mI 9) hx hb dX12_boxing_145 (by decide) ?_
        refine lv_iload hx hb dX12_boxing_147 (lv_at hl 4 rfl) ?_
        refine r_imul X dX12_boxing_149 ?_
        refine lv_iload_n hx hb dX12_boxing_150 rfl (lv_at hl 2 rfl) ?_
        refine r_iadd X dX12_boxing_151 ?_
        refine r_icmp_ne (tgt := 161) X dX12_boxing_152 (by decide) hf (fun hc hf => ?_) (fun hc hf => ?_)
        · exact w_X12_boxing_b161 X hk109 hw (lv_sub hl [0, 1, 2, 3, 4, 5] rfl) hf
        · refine lv_aload_n hx hb dX12_boxing_155 rfl (lv_at hl 0 rfl) ?_
          refine lv_iconst (v := mI 4) hx hb dX12_boxing_156 rfl ?_
          refine lv_iload_n hx hb dX12_boxing_157 rfl (lv_at hl 3 rfl) ?_
          refine r_cvv (rest := []) [.int (mI 4), .int (mI x3)] X hw (fun ra σa h => c_X12_blame l D cy ad bs F 4 x3 σ ra σa  h) sh_86 rfl (by decide) rfl km_X12_blame kv_X12_blame lm_X12_242 dX12_boxing_158 hl.1 rfl rfl (Nat.le_of_ble_eq_true rfl) ⟨by decide, by decide⟩ ⟨Nat.zero_le _, Nat.zero_le _⟩ hf (fun r216 σ217 _ hf H locs hw => ?_)
          exact w_X12_boxing_b161 X hk109 hw (lv_sub hl [0, 1, 2, 3, 4, 5] rfl) hf
def g_X12_boxing_b20 (F : Nat)  (t0 : Int) (σ : mMem) : mRs := mob (g_X12_counts F t0 σ) (fun r101 σ102 => if ¬ mw r101 = 0 then (if 0 ≤ mw (σ102 86 30) ∧ mw (σ102 86 30) < (2 : Int) then mlet ((6 * (σ102 86 30)) + (σ102 91 (mw (σ102 86 30)).toNat)) (fun y103 => mob (g_X12_fresh F σ102) (fun r104 σ105 => if 0 ≤ mw y103 ∧ mw y103 < (12 : Int) then mlm (mup σ105 102 (mw y103).toNat r104) (fun σ106 => mob (g_X12_must_ F 24948 σ106) (fun r107 σ108 => if 0 ≤ mw (σ108 86 30) ∧ mw (σ108 86 30) < (2 : Int) then mob (g_X12_number F 0 ((σ108 88 (mw (σ108 86 30)).toNat) - 1) σ108) (fun r109 σ110 => mob (g_X12_lex F σ110) (fun r111 σ112 => mlet (σ112 86 4) (fun y113 => if 0 ≤ mw (σ112 86 30) ∧ mw (σ112 86 30) < (2 : Int) then mob (g_X12_number F 0 ((σ112 89 (mw (σ112 86 30)).toNat) - 1) σ112) (fun r114 σ115 => g_X12_boxing_h109 F F y103 r109 y113 r114 0 σ115) else none))) else none)) else none)) else none) else (some (0, σ102)))
set_option maxRecDepth 100000 in
set_option maxHeartbeats 4000000 in
theorem w_X12_boxing_b20 {p : Program} {l : Launch} {e : Env} {s : State} {m : MethodId} {args : Array Value} {below : List Frame} {meth : Method} {c : Code} {D : va_G} {cy : Nat → ClassId} {ad : Nat → Nat} {bs : Nat} {F : Nat}  (X : mCx p m c cX12_boxing 6 s args RX12 meth D cy none)  {r : Int} {σ' : mMem}   {t0 : Int} {σ : mMem} {H : Heap} {locs : List Loc} {ls : Array Slot} (hw : mWd D cy ad bs true mN σ s.heap H locs) (hl : lv_has ls 6 [(0, .ref (ad 86))]) (hf : g_X12_boxing_b20 F t0 σ = some (r, σ')) : mGv p l e 4 s m args below meth c D cy ad bs σ' H locs (F0 m 20 ls [.int (mI t0), .ref (ad 86)]) := by
  obtain ⟨⟨hx, hb, -, -, -⟩, -⟩ := id X
  unfold g_X12_boxing_b20 at hf
  refine r_cvi (rest := []) [.int (mI t0)] X hw (fun ra σa h => c_X12_counts l D cy ad bs F t0 σ ra σa  h) sh_86 rfl (by decide) rfl km_X12_counts kv_X12_counts lm_X12_368 dX12_boxing_20 hl.1 rfl rfl (Nat.le_of_ble_eq_true rfl) ⟨by decide, by decide⟩ ⟨Nat.zero_le _, Nat.zero_le _⟩ hf (fun r101 σ102 _ hf H locs hw => ?_)
  refine r_if_ne (tgt := 27) X dX12_boxing_23 (by decide) hf (fun hc hf => ?_) (fun hc hf => ?_)
  · refine lv_bipush (v := mI 6) hx hb dX12_boxing_27 (by decide) ?_
    refine lv_aload_n hx hb dX12_boxing_29 rfl (lv_at hl 0 rfl) ?_
    refine r_geti X hw sh_86 fd_12_30 rfl lf_X12_103 dX12_boxing_30 ?_
    refine r_imul X dX12_boxing_33 ?_
    refine lv_aload_n hx hb dX12_boxing_34 rfl (lv_at hl 0 rfl) ?_
    refine r_getr 91 X hw sh_86 fd_12_17 rfl rfl lf_X12_63 dX12_boxing_35 ?_
    refine lv_aload_n hx hb dX12_boxing_38 rfl (lv_at hl 0 rfl) ?_
    refine r_geti X hw sh_86 fd_12_30 rfl lf_X12_103 dX12_boxing_39 ?_
    refine r_iald (2 : Int) rfl X hw sh_91 dX12_boxing_42 hf (fun hf => ?_)
    refine r_iadd X dX12_boxing_43 ?_
    refine r_leti hf (fun y103 hf => ?_)
    refine lv_istore_n (lv' := [(1, .int (mI y103)), (0, .ref (ad 86))]) hx hb dX12_boxing_44 rfl hl (by decide) rfl (fun ls hl => ?_)
    refine lv_aload_n hx hb dX12_boxing_45 rfl (lv_at hl 1 rfl) ?_
    refine r_getr 102 X hw sh_86 fd_12_28 rfl rfl lf_X12_96 dX12_boxing_46 ?_
    refine lv_iload_n hx hb dX12_boxing_49 rfl (lv_at hl 0 rfl) ?_
    refine lv_aload_n hx hb dX12_boxing_50 rfl (lv_at hl 1 rfl) ?_
    refine r_cvl (rest := [.int (mI y103), .ref (ad 102)]) [] X hw (fun ra σa h => c_X12_fresh l D cy ad bs F σ102 ra σa  h) sh_86 rfl (by decide) rfl km_X12_fresh kv_X12_fresh lm_X12_372 dX12_boxing_51 hl.1 rfl rfl (Nat.le_of_ble_eq_true rfl) ⟨by decide, by decide⟩ ⟨Nat.zero_le _, Nat.zero_le _⟩ hf (fun r104 σ105 _ hf H locs hw => ?_)
    refine r_last (12 : Int) rfl X hw sh_102 dX12_boxing_54 hf (fun hf H locs hw => ?_)
    refine r_mem hf hw (fun σ106 hw hf => ?_)
    refine lv_aload_n hx hb dX12_boxing_55 rfl (lv_at hl 1 rfl) ?_
    refine r_ldc2 (z := 24948) (by decide) X lc_X12_270 dX12_boxing_56 ?_
    refine r_cvv (rest := []) [.long (mL 24948)] X hw (fun ra σa h => c_X12_must_ l D cy ad bs F 24948 σ106 ra σa  h) sh_86 rfl (by decide) rfl km_X12_must_ kv_X12_must_ lm_X12_360 dX12_boxing_59 hl.1 rfl rfl (Nat.le_of_ble_eq_true rfl) ⟨by decide, by decide⟩ ⟨Nat.zero_le _, Nat.zero_le _⟩ hf (fun r107 σ108 _ hf H locs hw => ?_)
    refine lv_aload_n hx hb dX12_boxing_62 rfl (lv_at hl 1 rfl) ?_
    refine lv_iconst (v := mI 0) hx hb dX12_boxing_63 rfl ?_
    refine lv_aload_n hx hb dX12_boxing_64 rfl (lv_at hl 1 rfl) ?_
    refine r_getr 88 X hw sh_86 fd_12_14 rfl rfl lf_X12_54 dX12_boxing_65 ?_
    refine lv_aload_n hx hb dX12_boxing_68 rfl (lv_at hl 1 rfl) ?_
    refine r_geti X hw sh_86 fd_12_30 rfl lf_X12_103 dX12_boxing_69 ?_
    refine r_iald (2 : Int) rfl X hw sh_88 dX12_boxing_72 hf (fun hf => ?_)
    refine lv_iconst (v := mI 1) hx hb dX12_boxing_73 rfl ?_
    refine r_isub X dX12_boxing_74 ?_
    refine r_cvi (rest := []) [.int (mI 0), .int (mI ((σ108 88 (mw (σ108 86 30)).toNat) - 1))] X hw (fun ra σa h => c_X12_number l D cy ad bs F 0 ((σ108 88 (mw (σ108 86 30)).toNat) - 1) σ108 ra σa  h) sh_86 rfl (by decide) rfl km_X12_number kv_X12_number lm_X12_364 dX12_boxing_75 hl.1 rfl rfl (Nat.le_of_ble_eq_true rfl) ⟨by decide, by decide⟩ ⟨Nat.zero_le _, Nat.zero_le _⟩ hf (fun r109 σ110 _ hf H locs hw => ?_)
    refine lv_istore_n (lv' := [(2, .int (mI r109)), (1, .int (mI y103)), (0, .ref (ad 86))]) hx hb dX12_boxing_78 rfl hl (by decide) rfl (fun ls hl => ?_)
    refine lv_aload_n hx hb dX12_boxing_79 rfl (lv_at hl 2 rfl) ?_
    refine r_cvv (rest := []) [] X hw (fun ra σa h => c_X12_lex l D cy ad bs F σ110 ra σa  h) sh_86 rfl (by decide) rfl km_X12_lex kv_X12_lex lm_X12_253 dX12_boxing_80 hl.1 rfl rfl (Nat.le_of_ble_eq_true rfl) ⟨by decide, by decide⟩ ⟨Nat.zero_le _, Nat.zero_le _⟩ hf (fun r111 σ112 _ hf H locs hw => ?_)
    refine lv_aload_n hx hb dX12_boxing_83 rfl (lv_at hl 2 rfl) ?_
    refine r_geti X hw sh_86 fd_12_4 rfl lf_X12_23 dX12_boxing_84 ?_
    refine r_leti hf (fun y113 hf => ?_)
    refine lv_istore_n (lv' := [(3, .int (mI y113)), (2, .int (mI r109)), (1, .int (mI y103)), (0, .ref (ad 86))]) hx hb dX12_boxing_87 rfl hl (by decide) rfl (fun ls hl => ?_)
    refine lv_aload_n hx hb dX12_boxing_88 rfl (lv_at hl 3 rfl) ?_
    refine lv_iconst (v := mI 0) hx hb dX12_boxing_89 rfl ?_
    refine lv_aload_n hx hb dX12_boxing_90 rfl (lv_at hl 3 rfl) ?_
    refine r_getr 89 X hw sh_86 fd_12_15 rfl rfl lf_X12_57 dX12_boxing_91 ?_
    refine lv_aload_n hx hb dX12_boxing_94 rfl (lv_at hl 3 rfl) ?_
    refine r_geti X hw sh_86 fd_12_30 rfl lf_X12_103 dX12_boxing_95 ?_
    refine r_iald (2 : Int) rfl X hw sh_89 dX12_boxing_98 hf (fun hf => ?_)
    refine lv_iconst (v := mI 1) hx hb dX12_boxing_99 rfl ?_
    refine r_isub X dX12_boxing_100 ?_
    refine r_cvi (rest := []) [.int (mI 0), .int (mI ((σ112 89 (mw (σ112 86 30)).toNat) - 1))] X hw (fun ra σa h => c_X12_number l D cy ad bs F 0 ((σ112 89 (mw (σ112 86 30)).toNat) - 1) σ112 ra σa  h) sh_86 rfl (by decide) rfl km_X12_number kv_X12_number lm_X12_364 dX12_boxing_101 hl.1 rfl rfl (Nat.le_of_ble_eq_true rfl) ⟨by decide, by decide⟩ ⟨Nat.zero_le _, Nat.zero_le _⟩ hf (fun r114 σ115 _ hf H locs hw => ?_)
    refine lv_istore (lv' := [(4, .int (mI r114)), (3, .int (mI y113)), (2, .int (mI r109)), (1, .int (mI y103)), (0, .ref (ad 86))]) hx hb dX12_boxing_104 hl (by decide) rfl (fun ls hl => ?_)
    refine lv_iconst (v := mI 0) hx hb dX12_boxing_106 rfl ?_
    refine lv_istore (lv' := [(5, .int (mI 0)), (4, .int (mI r114)), (3, .int (mI y113)), (2, .int (mI r109)), (1, .int (mI y103)), (0, .ref (ad 86))]) hx hb dX12_boxing_107 hl (by decide) rfl (fun ls hl => ?_)
    exact w_X12_boxing_h109 X _ hw (lv_sub hl [5, 4, 3, 2, 1, 0] rfl) hf
  · exact r_vret X hw dX12_boxing_26 hf
def g_X12_boxing (F : Nat) (σ : mMem) : mRs := if 0 ≤ mw (σ 86 30) ∧ mw (σ 86 30) < (2 : Int) then if ¬ mw (σ 91 (mw (σ 86 30)).toNat) = mw 6 then (g_X12_boxing_b20 F 0 σ) else (g_X12_boxing_b20 F 1 σ) else none
set_option maxRecDepth 100000 in
set_option maxHeartbeats 4000000 in
theorem c_X12_boxing (l : Launch) (D : va_G) (cy : Nat → ClassId) (ad : Nat → Nat) (bs : Nat) (F : Nat)   (σ : mMem) (r : Int) (σ' : mMem)  (hf : g_X12_boxing F  σ = some (r, σ')) : mCv l D cy ad bs yX12_boxing cX12_boxing 6 none 4 [.ref (ad 86)] σ σ' := by
  refine mCv.of (lv := [(0, .ref (ad 86))]) km_X12_boxing.2.2.2.2.2 (Nat.le_of_ble_eq_true rfl) rfl (fun p e s m args below meth c H locs ls X hw hl => ?_)
  obtain ⟨⟨hx, hb, -, -, -⟩, -⟩ := id X
  unfold g_X12_boxing at hf
  refine lv_aload_n hx hb dX12_boxing_0 rfl (lv_at hl 0 rfl) ?_
  refine lv_aload_n hx hb dX12_boxing_1 rfl (lv_at hl 0 rfl) ?_
  refine r_getr 91 X hw sh_86 fd_12_17 rfl rfl lf_X12_63 dX12_boxing_2 ?_
  refine lv_aload_n hx hb dX12_boxing_5 rfl (lv_at hl 0 rfl) ?_
  refine r_geti X hw sh_86 fd_12_30 rfl lf_X12_103 dX12_boxing_6 ?_
  refine r_iald (2 : Int) rfl X hw sh_91 dX12_boxing_9 hf (fun hf => ?_)
  refine lv_bipush (v := mI 6) hx hb dX12_boxing_10 (by decide) ?_
  refine r_icmp_ne (tgt := 19) X dX12_boxing_12 (by decide) hf (fun hc hf => ?_) (fun hc hf => ?_)
  · refine lv_iconst (v := mI 0) hx hb dX12_boxing_19 rfl ?_
    exact w_X12_boxing_b20 X hw (lv_sub hl [0] rfl) hf
  · refine lv_iconst (v := mI 1) hx hb dX12_boxing_15 rfl ?_
    refine lv_goto (tgt := 20) hx hb dX12_boxing_16 (by decide) ?_
    exact w_X12_boxing_b20 X hw (lv_sub hl [0] rfl) hf
def g_X12_eyeing (F : Nat) (σ : mMem) : mRs := mob (g_X12_counts F 0 σ) (fun r1 σ2 => if ¬ mw r1 = 0 then (mob (g_X12_known F σ2) (fun r3 σ4 => mlet ((6 * (σ2 86 30)) + r3) (fun y5 => mob (g_X12_must_ F 418497262196 σ4) (fun r6 σ7 => mob (g_X12_number F 0 2 σ7) (fun r8 σ9 => mob (g_X12_must_ F 418363302244 σ9) (fun r10 σ11 => mob (g_X12_number F 0 3 σ11) (fun r12 σ13 => if mw (σ13 86 8) ≤ 0 then (if 0 ≤ mw y5 ∧ mw y5 < (12 : Int) then mlm (mup σ13 94 (mw y5).toNat r8) (fun σ14 => if 0 ≤ mw y5 ∧ mw y5 < (12 : Int) then mlm (mup σ14 95 (mw y5).toNat r12) (fun σ15 => some (0, σ15)) else none) else none) else (some (0, σ13))))))))) else (some (0, σ2)))
set_option maxRecDepth 100000 in
set_option maxHeartbeats 4000000 in
theorem c_X12_eyeing (l : Launch) (D : va_G) (cy : Nat → ClassId) (ad : Nat → Nat) (bs : Nat) (F : Nat)   (σ : mMem) (r : Int) (σ' : mMem)  (hf : g_X12_eyeing F  σ = some (r, σ')) : mCv l D cy ad bs yX12_eyeing cX12_eyeing 4 none 4 [.ref (ad 86)] σ σ' := by
  refine mCv.of (lv := [(0, .ref (ad 86))]) km_X12_eyeing.2.2.2.2.2 (Nat.le_of_ble_eq_true rfl) rfl (fun p e s m args below meth c H locs ls X hw hl => ?_)
  obtain ⟨⟨hx, hb, -, -, -⟩, -⟩ := id X
  unfold g_X12_eyeing at hf
  refine lv_aload_n hx hb dX12_eyeing_0 rfl (lv_at hl 0 rfl) ?_
  refine lv_iconst (v := mI 0) hx hb dX12_eyeing_1 rfl ?_
  refine r_cvi (rest := []) [.int (mI 0)] X hw (fun ra σa h => c_X12_counts l D cy ad bs F 0 σ ra σa  h) sh_86 rfl (by decide) rfl km_X12_counts kv_X12_counts lm_X12_368 dX12_eyeing_2 hl.1 rfl rfl (Nat.le_of_ble_eq_true rfl) ⟨by decide, by decide⟩ ⟨Nat.zero_le _, Nat.zero_le _⟩ hf (fun r1 σ2 _ hf H locs hw => ?_)
  refine r_if_ne (tgt := 9) X dX12_eyeing_5 (by decide) hf (fun hc hf => ?_) (fun hc hf => ?_)
  · refine lv_bipush (v := mI 6) hx hb dX12_eyeing_9 (by decide) ?_
    refine lv_aload_n hx hb dX12_eyeing_11 rfl (lv_at hl 0 rfl) ?_
    refine r_geti X hw sh_86 fd_12_30 rfl lf_X12_103 dX12_eyeing_12 ?_
    refine r_imul X dX12_eyeing_15 ?_
    refine lv_aload_n hx hb dX12_eyeing_16 rfl (lv_at hl 0 rfl) ?_
    refine r_cvi (rest := [.int (mI (6 * (σ2 86 30)))]) [] X hw (fun ra σa h => c_X12_known l D cy ad bs F σ2 ra σa  h) sh_86 rfl (by decide) rfl km_X12_known kv_X12_known lm_X12_376 dX12_eyeing_17 hl.1 rfl rfl (Nat.le_of_ble_eq_true rfl) ⟨by decide, by decide⟩ ⟨Nat.zero_le _, Nat.zero_le _⟩ hf (fun r3 σ4 _ hf H locs hw => ?_)
    refine r_iadd X dX12_eyeing_20 ?_
    refine r_leti hf (fun y5 hf => ?_)
    refine lv_istore_n (lv' := [(1, .int (mI y5)), (0, .ref (ad 86))]) hx hb dX12_eyeing_21 rfl hl (by decide) rfl (fun ls hl => ?_)
    refine lv_aload_n hx hb dX12_eyeing_22 rfl (lv_at hl 1 rfl) ?_
    refine r_ldc2 (z := 418497262196) (by decide) X lc_X12_276 dX12_eyeing_23 ?_
    refine r_cvv (rest := []) [.long (mL 418497262196)] X hw (fun ra σa h => c_X12_must_ l D cy ad bs F 418497262196 σ4 ra σa  h) sh_86 rfl (by decide) rfl km_X12_must_ kv_X12_must_ lm_X12_360 dX12_eyeing_26 hl.1 rfl rfl (Nat.le_of_ble_eq_true rfl) ⟨by decide, by decide⟩ ⟨Nat.zero_le _, Nat.zero_le _⟩ hf (fun r6 σ7 _ hf H locs hw => ?_)
    refine lv_aload_n hx hb dX12_eyeing_29 rfl (lv_at hl 1 rfl) ?_
    refine lv_iconst (v := mI 0) hx hb dX12_eyeing_30 rfl ?_
    refine lv_iconst (v := mI 2) hx hb dX12_eyeing_31 rfl ?_
    refine r_cvi (rest := []) [.int (mI 0), .int (mI 2)] X hw (fun ra σa h => c_X12_number l D cy ad bs F 0 2 σ7 ra σa  h) sh_86 rfl (by decide) rfl km_X12_number kv_X12_number lm_X12_364 dX12_eyeing_32 hl.1 rfl rfl (Nat.le_of_ble_eq_true rfl) ⟨by decide, by decide⟩ ⟨Nat.zero_le _, Nat.zero_le _⟩ hf (fun r8 σ9 _ hf H locs hw => ?_)
    refine lv_istore_n (lv' := [(2, .int (mI r8)), (1, .int (mI y5)), (0, .ref (ad 86))]) hx hb dX12_eyeing_35 rfl hl (by decide) rfl (fun ls hl => ?_)
    refine lv_aload_n hx hb dX12_eyeing_36 rfl (lv_at hl 2 rfl) ?_
    refine r_ldc2 (z := 418363302244) (by decide) X lc_X12_278 dX12_eyeing_37 ?_
    refine r_cvv (rest := []) [.long (mL 418363302244)] X hw (fun ra σa h => c_X12_must_ l D cy ad bs F 418363302244 σ9 ra σa  h) sh_86 rfl (by decide) rfl km_X12_must_ kv_X12_must_ lm_X12_360 dX12_eyeing_40 hl.1 rfl rfl (Nat.le_of_ble_eq_true rfl) ⟨by decide, by decide⟩ ⟨Nat.zero_le _, Nat.zero_le _⟩ hf (fun r10 σ11 _ hf H locs hw => ?_)
    refine lv_aload_n hx hb dX12_eyeing_43 rfl (lv_at hl 2 rfl) ?_
    refine lv_iconst (v := mI 0) hx hb dX12_eyeing_44 rfl ?_
    refine lv_iconst (v := mI 3) hx hb dX12_eyeing_45 rfl ?_
    refine r_cvi (rest := []) [.int (mI 0), .int (mI 3)] X hw (fun ra σa h => c_X12_number l D cy ad bs F 0 3 σ11 ra σa  h) sh_86 rfl (by decide) rfl km_X12_number kv_X12_number lm_X12_364 dX12_eyeing_46 hl.1 rfl rfl (Nat.le_of_ble_eq_true rfl) ⟨by decide, by decide⟩ ⟨Nat.zero_le _, Nat.zero_le _⟩ hf (fun r12 σ13 _ hf H locs hw => ?_)
    refine lv_istore_n (lv' := [(3, .int (mI r12)), (2, .int (mI r8)), (1, .int (mI y5)), (0, .ref (ad 86))]) hx hb dX12_eyeing_49 rfl hl (by decide) rfl (fun ls hl => ?_)
    refine lv_aload_n hx hb dX12_eyeing_50 rfl (lv_at hl 3 rfl) ?_
    refine r_geti X hw sh_86 fd_12_8 rfl lf_X12_36 dX12_eyeing_51 ?_
    refine r_if_le (tgt := 58) X dX12_eyeing_54 (by decide) hf (fun hc hf => ?_) (fun hc hf => ?_)
    · refine lv_aload_n hx hb dX12_eyeing_58 rfl (lv_at hl 3 rfl) ?_
      refine r_getr 94 X hw sh_86 fd_12_20 rfl rfl lf_X12_72 dX12_eyeing_59 ?_
      refine lv_iload_n hx hb dX12_eyeing_62 rfl (lv_at hl 2 rfl) ?_
      refine lv_iload_n hx hb dX12_eyeing_63 rfl (lv_at hl 1 rfl) ?_
      refine r_iast (12 : Int) rfl X hw sh_94 dX12_eyeing_64 hf (fun hf H locs hw => ?_)
      refine r_mem hf hw (fun σ14 hw hf => ?_)
      refine lv_aload_n hx hb dX12_eyeing_65 rfl (lv_at hl 3 rfl) ?_
      refine r_getr 95 X hw sh_86 fd_12_21 rfl rfl lf_X12_75 dX12_eyeing_66 ?_
      refine lv_iload_n hx hb dX12_eyeing_69 rfl (lv_at hl 2 rfl) ?_
      refine lv_iload_n hx hb dX12_eyeing_70 rfl (lv_at hl 0 rfl) ?_
      refine r_iast (12 : Int) rfl X hw sh_95 dX12_eyeing_71 hf (fun hf H locs hw => ?_)
      refine r_mem hf hw (fun σ15 hw hf => ?_)
      exact r_vret X hw dX12_eyeing_72 hf
    · exact r_vret X hw dX12_eyeing_57 hf
  · exact r_vret X hw dX12_eyeing_8 hf
def g_X12_biasing_b44 (F : Nat)  (σ : mMem) : mRs := some (0, σ)
set_option maxRecDepth 100000 in
set_option maxHeartbeats 4000000 in
theorem w_X12_biasing_b44 {p : Program} {l : Launch} {e : Env} {s : State} {m : MethodId} {args : Array Value} {below : List Frame} {meth : Method} {c : Code} {D : va_G} {cy : Nat → ClassId} {ad : Nat → Nat} {bs : Nat} {F : Nat}  (X : mCx p m c cX12_biasing 3 s args RX12 meth D cy none)  {r : Int} {σ' : mMem}    {σ : mMem} {H : Heap} {locs : List Loc} {ls : Array Slot} (hw : mWd D cy ad bs true mN σ s.heap H locs) (hl : lv_has ls 3 [(0, .ref (ad 86))]) (hf : g_X12_biasing_b44 F  σ = some (r, σ')) : mGv p l e 4 s m args below meth c D cy ad bs σ' H locs (F0 m 44 ls []) := by
  obtain ⟨⟨hx, hb, -, -, -⟩, -⟩ := id X
  unfold g_X12_biasing_b44 at hf
  exact r_vret X hw dX12_biasing_44 hf
def g_X12_biasing (F : Nat) (σ : mMem) : mRs := mob (g_X12_counts F 0 σ) (fun r1 σ2 => if ¬ mw r1 = 0 then (mob (g_X12_known F σ2) (fun r3 σ4 => mlet ((6 * (σ2 86 30)) + r3) (fun y5 => mob (g_X12_number F 0 9 σ4) (fun r6 σ7 => if ¬ mw (σ7 86 8) = 0 then (g_X12_biasing_b44 F σ7) else (if 0 ≤ mw y5 ∧ mw y5 < (12 : Int) then mlm (mup σ7 96 (mw y5).toNat r6) (fun σ8 => g_X12_biasing_b44 F σ8) else none))))) else (some (0, σ2)))
set_option maxRecDepth 100000 in
set_option maxHeartbeats 4000000 in
theorem c_X12_biasing (l : Launch) (D : va_G) (cy : Nat → ClassId) (ad : Nat → Nat) (bs : Nat) (F : Nat)   (σ : mMem) (r : Int) (σ' : mMem)  (hf : g_X12_biasing F  σ = some (r, σ')) : mCv l D cy ad bs yX12_biasing cX12_biasing 3 none 4 [.ref (ad 86)] σ σ' := by
  refine mCv.of (lv := [(0, .ref (ad 86))]) km_X12_biasing.2.2.2.2.2 (Nat.le_of_ble_eq_true rfl) rfl (fun p e s m args below meth c H locs ls X hw hl => ?_)
  obtain ⟨⟨hx, hb, -, -, -⟩, -⟩ := id X
  unfold g_X12_biasing at hf
  refine lv_aload_n hx hb dX12_biasing_0 rfl (lv_at hl 0 rfl) ?_
  refine lv_iconst (v := mI 0) hx hb dX12_biasing_1 rfl ?_
  refine r_cvi (rest := []) [.int (mI 0)] X hw (fun ra σa h => c_X12_counts l D cy ad bs F 0 σ ra σa  h) sh_86 rfl (by decide) rfl km_X12_counts kv_X12_counts lm_X12_368 dX12_biasing_2 hl.1 rfl rfl (Nat.le_of_ble_eq_true rfl) ⟨by decide, by decide⟩ ⟨Nat.zero_le _, Nat.zero_le _⟩ hf (fun r1 σ2 _ hf H locs hw => ?_)
  refine r_if_ne (tgt := 9) X dX12_biasing_5 (by decide) hf (fun hc hf => ?_) (fun hc hf => ?_)
  · refine lv_bipush (v := mI 6) hx hb dX12_biasing_9 (by decide) ?_
    refine lv_aload_n hx hb dX12_biasing_11 rfl (lv_at hl 0 rfl) ?_
    refine r_geti X hw sh_86 fd_12_30 rfl lf_X12_103 dX12_biasing_12 ?_
    refine r_imul X dX12_biasing_15 ?_
    refine lv_aload_n hx hb dX12_biasing_16 rfl (lv_at hl 0 rfl) ?_
    refine r_cvi (rest := [.int (mI (6 * (σ2 86 30)))]) [] X hw (fun ra σa h => c_X12_known l D cy ad bs F σ2 ra σa  h) sh_86 rfl (by decide) rfl km_X12_known kv_X12_known lm_X12_376 dX12_biasing_17 hl.1 rfl rfl (Nat.le_of_ble_eq_true rfl) ⟨by decide, by decide⟩ ⟨Nat.zero_le _, Nat.zero_le _⟩ hf (fun r3 σ4 _ hf H locs hw => ?_)
    refine r_iadd X dX12_biasing_20 ?_
    refine r_leti hf (fun y5 hf => ?_)
    refine lv_istore_n (lv' := [(1, .int (mI y5)), (0, .ref (ad 86))]) hx hb dX12_biasing_21 rfl hl (by decide) rfl (fun ls hl => ?_)
    refine lv_aload_n hx hb dX12_biasing_22 rfl (lv_at hl 1 rfl) ?_
    refine lv_iconst (v := mI 0) hx hb dX12_biasing_23 rfl ?_
    refine lv_bipush (v := mI 9) hx hb dX12_biasing_24 (by decide) ?_
    refine r_cvi (rest := []) [.int (mI 0), .int (mI 9)] X hw (fun ra σa h => c_X12_number l D cy ad bs F 0 9 σ4 ra σa  h) sh_86 rfl (by decide) rfl km_X12_number kv_X12_number lm_X12_364 dX12_biasing_26 hl.1 rfl rfl (Nat.le_of_ble_eq_true rfl) ⟨by decide, by decide⟩ ⟨Nat.zero_le _, Nat.zero_le _⟩ hf (fun r6 σ7 _ hf H locs hw => ?_)
    refine lv_istore_n (lv' := [(2, .int (mI r6)), (1, .int (mI y5)), (0, .ref (ad 86))]) hx hb dX12_biasing_29 rfl hl (by decide) rfl (fun ls hl => ?_)
    refine lv_aload_n hx hb dX12_biasing_30 rfl (lv_at hl 2 rfl) ?_
    refine r_geti X hw sh_86 fd_12_8 rfl lf_X12_36 dX12_biasing_31 ?_
    refine r_if_ne (tgt := 44) X dX12_biasing_34 (by decide) hf (fun hc hf => ?_) (fun hc hf => ?_)
    · exact w_X12_biasing_b44 X hw (lv_sub hl [2] rfl) hf
    · refine lv_aload_n hx hb dX12_biasing_37 rfl (lv_at hl 2 rfl) ?_
      refine r_getr 96 X hw sh_86 fd_12_22 rfl rfl lf_X12_78 dX12_biasing_38 ?_
      refine lv_iload_n hx hb dX12_biasing_41 rfl (lv_at hl 1 rfl) ?_
      refine lv_iload_n hx hb dX12_biasing_42 rfl (lv_at hl 0 rfl) ?_
      refine r_iast (12 : Int) rfl X hw sh_96 dX12_biasing_43 hf (fun hf H locs hw => ?_)
      refine r_mem hf hw (fun σ8 hw hf => ?_)
      exact w_X12_biasing_b44 X hw (lv_sub hl [2] rfl) hf
  · exact r_vret X hw dX12_biasing_8 hf
def g_X12_reading_b67 (F : Nat)  (x2 t0 : Int) (σ : mMem) : mRs := mob (g_X12_reads F t0 σ) (fun r306 σ307 => if 0 ≤ mw x2 ∧ mw x2 < (4 : Int) then mlm (mup σ307 99 (mw x2).toNat (σ307 86 29)) (fun σ308 => some (0, σ308)) else none)
set_option maxRecDepth 100000 in
set_option maxHeartbeats 4000000 in
theorem w_X12_reading_b67 {p : Program} {l : Launch} {e : Env} {s : State} {m : MethodId} {args : Array Value} {below : List Frame} {meth : Method} {c : Code} {D : va_G} {cy : Nat → ClassId} {ad : Nat → Nat} {bs : Nat} {F : Nat}  (X : mCx p m c cX12_reading 3 s args RX12 meth D cy none)  {r : Int} {σ' : mMem}   {x2 t0 : Int} {σ : mMem} {H : Heap} {locs : List Loc} {ls : Array Slot} (hw : mWd D cy ad bs true mN σ s.heap H locs) (hl : lv_has ls 3 [(0, .ref (ad 86)), (2, .int (mI x2))]) (hf : g_X12_reading_b67 F x2 t0 σ = some (r, σ')) : mGv p l e 6 s m args below meth c D cy ad bs σ' H locs (F0 m 67 ls [.int (mI t0), .ref (ad 86)]) := by
  obtain ⟨⟨hx, hb, -, -, -⟩, -⟩ := id X
  unfold g_X12_reading_b67 at hf
  refine r_cvv (rest := []) [.int (mI t0)] X hw (fun ra σa h => c_X12_reads l D cy ad bs F t0 σ ra σa  h) sh_86 rfl (by decide) rfl km_X12_reads kv_X12_reads lm_X12_380 dX12_reading_67 hl.1 rfl rfl (Nat.le_of_ble_eq_true rfl) ⟨by decide, by decide⟩ ⟨Nat.zero_le _, Nat.zero_le _⟩ hf (fun r306 σ307 _ hf H locs hw => ?_)
  refine lv_aload_n hx hb dX12_reading_70 rfl (lv_at hl 0 rfl) ?_
  refine r_getr 99 X hw sh_86 fd_12_25 rfl rfl lf_X12_87 dX12_reading_71 ?_
  refine lv_iload_n hx hb dX12_reading_74 rfl (lv_at hl 1 rfl) ?_
  refine lv_aload_n hx hb dX12_reading_75 rfl (lv_at hl 0 rfl) ?_
  refine r_geti X hw sh_86 fd_12_29 rfl lf_X12_100 dX12_reading_76 ?_
  refine r_iast (4 : Int) rfl X hw sh_99 dX12_reading_79 hf (fun hf H locs hw => ?_)
  refine r_mem hf hw (fun σ308 hw hf => ?_)
  exact r_vret X hw dX12_reading_80 hf
def g_X12_reading_b43 (F : Nat)  (x1 x2 t0 : Int) (σ : mMem) : mRs := if mw t0 = 0 ∨ mw t0 = 1 then mlm (mup σ 86 31 t0) (fun σ204 => if 0 ≤ mw x2 ∧ mw x2 < (4 : Int) then mlm (mup σ204 98 (mw x2).toNat (σ204 86 29)) (fun σ205 => if ¬ mw x1 = mw 1 then (g_X12_reading_b67 F x2 0 σ205) else (g_X12_reading_b67 F x2 1 σ205)) else none) else none
set_option maxRecDepth 100000 in
set_option maxHeartbeats 4000000 in
theorem w_X12_reading_b43 {p : Program} {l : Launch} {e : Env} {s : State} {m : MethodId} {args : Array Value} {below : List Frame} {meth : Method} {c : Code} {D : va_G} {cy : Nat → ClassId} {ad : Nat → Nat} {bs : Nat} {F : Nat}  (X : mCx p m c cX12_reading 3 s args RX12 meth D cy none)  {r : Int} {σ' : mMem}   {x1 x2 t0 : Int} {σ : mMem} {H : Heap} {locs : List Loc} {ls : Array Slot} (hw : mWd D cy ad bs true mN σ s.heap H locs) (hl : lv_has ls 3 [(0, .ref (ad 86)), (1, .int (mI x1)), (2, .int (mI x2))]) (hf : g_X12_reading_b43 F x1 x2 t0 σ = some (r, σ')) : mGv p l e 6 s m args below meth c D cy ad bs σ' H locs (F0 m 43 ls [.int (mI t0), .ref (ad 86)]) := by
  obtain ⟨⟨hx, hb, -, -, -⟩, -⟩ := id X
  unfold g_X12_reading_b43 at hf
  refine r_putz X hw sh_86 fd_12_31 fp_12_31 rfl rfl lf_X12_106 dX12_reading_43 hf (fun hf H locs hw => ?_)
  refine r_mem hf hw (fun σ204 hw hf => ?_)
  refine lv_aload_n hx hb dX12_reading_46 rfl (lv_at hl 0 rfl) ?_
  refine r_getr 98 X hw sh_86 fd_12_24 rfl rfl lf_X12_84 dX12_reading_47 ?_
  refine lv_iload_n hx hb dX12_reading_50 rfl (lv_at hl 2 rfl) ?_
  refine lv_aload_n hx hb dX12_reading_51 rfl (lv_at hl 0 rfl) ?_
  refine r_geti X hw sh_86 fd_12_29 rfl lf_X12_100 dX12_reading_52 ?_
  refine r_iast (4 : Int) rfl X hw sh_98 dX12_reading_55 hf (fun hf H locs hw => ?_)
  refine r_mem hf hw (fun σ205 hw hf => ?_)
  refine lv_aload_n hx hb dX12_reading_56 rfl (lv_at hl 0 rfl) ?_
  refine lv_iload_n hx hb dX12_reading_57 rfl (lv_at hl 1 rfl) ?_
  refine lv_iconst (v := mI 1) hx hb dX12_reading_58 rfl ?_
  refine r_icmp_ne (tgt := 66) X dX12_reading_59 (by decide) hf (fun hc hf => ?_) (fun hc hf => ?_)
  · refine lv_iconst (v := mI 0) hx hb dX12_reading_66 rfl ?_
    exact w_X12_reading_b67 X hw (lv_sub hl [0, 2] rfl) hf
  · refine lv_iconst (v := mI 1) hx hb dX12_reading_62 rfl ?_
    refine lv_goto (tgt := 67) hx hb dX12_reading_63 (by decide) ?_
    exact w_X12_reading_b67 X hw (lv_sub hl [0, 2] rfl) hf
def g_X12_reading_b25 (F : Nat)  (x1 x2 t0 : Int) (σ : mMem) : mRs := mob (g_X12_counts F t0 σ) (fun r102 σ103 => if ¬ mw r102 = 0 then (if ¬ mw x1 = mw 1 then (g_X12_reading_b43 F x1 x2 0 σ103) else (g_X12_reading_b43 F x1 x2 1 σ103)) else (some (0, σ103)))
set_option maxRecDepth 100000 in
set_option maxHeartbeats 4000000 in
theorem w_X12_reading_b25 {p : Program} {l : Launch} {e : Env} {s : State} {m : MethodId} {args : Array Value} {below : List Frame} {meth : Method} {c : Code} {D : va_G} {cy : Nat → ClassId} {ad : Nat → Nat} {bs : Nat} {F : Nat}  (X : mCx p m c cX12_reading 3 s args RX12 meth D cy none)  {r : Int} {σ' : mMem}   {x1 x2 t0 : Int} {σ : mMem} {H : Heap} {locs : List Loc} {ls : Array Slot} (hw : mWd D cy ad bs true mN σ s.heap H locs) (hl : lv_has ls 3 [(0, .ref (ad 86)), (1, .int (mI x1)), (2, .int (mI x2))]) (hf : g_X12_reading_b25 F x1 x2 t0 σ = some (r, σ')) : mGv p l e 6 s m args below meth c D cy ad bs σ' H locs (F0 m 25 ls [.int (mI t0), .ref (ad 86)]) := by
  obtain ⟨⟨hx, hb, -, -, -⟩, -⟩ := id X
  unfold g_X12_reading_b25 at hf
  refine r_cvi (rest := []) [.int (mI t0)] X hw (fun ra σa h => c_X12_counts l D cy ad bs F t0 σ ra σa  h) sh_86 rfl (by decide) rfl km_X12_counts kv_X12_counts lm_X12_368 dX12_reading_25 hl.1 rfl rfl (Nat.le_of_ble_eq_true rfl) ⟨by decide, by decide⟩ ⟨Nat.zero_le _, Nat.zero_le _⟩ hf (fun r102 σ103 _ hf H locs hw => ?_)
  refine r_if_ne (tgt := 32) X dX12_reading_28 (by decide) hf (fun hc hf => ?_) (fun hc hf => ?_)
  · refine lv_aload_n hx hb dX12_reading_32 rfl (lv_at hl 0 rfl) ?_
    refine lv_iload_n hx hb dX12_reading_33 rfl (lv_at hl 1 rfl) ?_
    refine lv_iconst (v := mI 1) hx hb dX12_reading_34 rfl ?_
    refine r_icmp_ne (tgt := 42) X dX12_reading_35 (by decide) hf (fun hc hf => ?_) (fun hc hf => ?_)
    · refine lv_iconst (v := mI 0) hx hb dX12_reading_42 rfl ?_
      exact w_X12_reading_b43 X hw (lv_sub hl [0, 1, 2] rfl) hf
    · refine lv_iconst (v := mI 1) hx hb dX12_reading_38 rfl ?_
      refine lv_goto (tgt := 43) hx hb dX12_reading_39 (by decide) ?_
      exact w_X12_reading_b43 X hw (lv_sub hl [0, 1, 2] rfl) hf
  · exact r_vret X hw dX12_reading_31 hf
def g_X12_reading (F : Nat) (x1 : Int) (σ : mMem) : mRs := mlet ((2 * (σ 86 30)) + x1) (fun y1 => if 0 ≤ mw y1 ∧ mw y1 < (4 : Int) then if mw (σ 98 (mw y1).toNat) = mw (-1) then (g_X12_reading_b25 F x1 y1 0 σ) else (g_X12_reading_b25 F x1 y1 1 σ) else none)
set_option maxRecDepth 100000 in
set_option maxHeartbeats 4000000 in
theorem c_X12_reading (l : Launch) (D : va_G) (cy : Nat → ClassId) (ad : Nat → Nat) (bs : Nat) (F : Nat)  (x1 : Int) (σ : mMem) (r : Int) (σ' : mMem)  (hf : g_X12_reading F x1 σ = some (r, σ')) : mCv l D cy ad bs yX12_reading cX12_reading 3 none 6 [.ref (ad 86), .int (mI x1)] σ σ' := by
  refine mCv.of (lv := [(0, .ref (ad 86)), (1, .int (mI x1))]) km_X12_reading.2.2.2.2.2 (Nat.le_of_ble_eq_true rfl) rfl (fun p e s m args below meth c H locs ls X hw hl => ?_)
  obtain ⟨⟨hx, hb, -, -, -⟩, -⟩ := id X
  unfold g_X12_reading at hf
  refine lv_iconst (v := mI 2) hx hb dX12_reading_0 rfl ?_
  refine lv_aload_n hx hb dX12_reading_1 rfl (lv_at hl 0 rfl) ?_
  refine r_geti X hw sh_86 fd_12_30 rfl lf_X12_103 dX12_reading_2 ?_
  refine r_imul X dX12_reading_5 ?_
  refine lv_iload_n hx hb dX12_reading_6 rfl (lv_at hl 1 rfl) ?_
  refine r_iadd X dX12_reading_7 ?_
  refine r_leti hf (fun y1 hf => ?_)
  refine lv_istore_n (lv' := [(2, .int (mI y1)), (0, .ref (ad 86)), (1, .int (mI x1))]) hx hb dX12_reading_8 rfl hl (by decide) rfl (fun ls hl => ?_)
  refine lv_aload_n hx hb dX12_reading_9 rfl (lv_at hl 1 rfl) ?_
  refine lv_aload_n hx hb dX12_reading_10 rfl (lv_at hl 1 rfl) ?_
  refine r_getr 98 X hw sh_86 fd_12_24 rfl rfl lf_X12_84 dX12_reading_11 ?_
  refine lv_iload_n hx hb dX12_reading_14 rfl (lv_at hl 0 rfl) ?_
  refine r_iald (4 : Int) rfl X hw sh_98 dX12_reading_15 hf (fun hf => ?_)
  refine lv_iconst (v := mI (-1)) hx hb dX12_reading_16 rfl ?_
  refine r_icmp_eq (tgt := 24) X dX12_reading_17 (by decide) hf (fun hc hf => ?_) (fun hc hf => ?_)
  · refine lv_iconst (v := mI 0) hx hb dX12_reading_24 rfl ?_
    exact w_X12_reading_b25 X hw (lv_sub hl [1, 2, 0] rfl) hf
  · refine lv_iconst (v := mI 1) hx hb dX12_reading_20 rfl ?_
    refine lv_goto (tgt := 25) hx hb dX12_reading_21 (by decide) ?_
    exact w_X12_reading_b25 X hw (lv_sub hl [1, 2, 0] rfl) hf
def g_X12_telling_b37 (F : Nat)  (σ : mMem) : mRs := some (0, σ)
set_option maxRecDepth 100000 in
set_option maxHeartbeats 4000000 in
theorem w_X12_telling_b37 {p : Program} {l : Launch} {e : Env} {s : State} {m : MethodId} {args : Array Value} {below : List Frame} {meth : Method} {c : Code} {D : va_G} {cy : Nat → ClassId} {ad : Nat → Nat} {bs : Nat} {F : Nat}  (X : mCx p m c cX12_telling 4 s args RX12 meth D cy none)  {r : Int} {σ' : mMem}    {σ : mMem} {H : Heap} {locs : List Loc} {ls : Array Slot} (hw : mWd D cy ad bs true mN σ s.heap H locs) (hl : lv_has ls 4 [(0, .ref (ad 86))]) (hf : g_X12_telling_b37 F  σ = some (r, σ')) : mGv p l e 4 s m args below meth c D cy ad bs σ' H locs (F0 m 37 ls []) := by
  obtain ⟨⟨hx, hb, -, -, -⟩, -⟩ := id X
  unfold g_X12_telling_b37 at hf
  exact r_vret X hw dX12_telling_37 hf
def g_X12_telling (F : Nat) (x1 x2 : Int) (σ : mMem) : mRs := mob (g_X12_counts F 0 σ) (fun r1 σ2 => if ¬ mw r1 = 0 then (mob (g_X12_number F 0 x2 σ2) (fun r3 σ4 => if ¬ mw (σ4 86 8) = 0 then (g_X12_telling_b37 F σ4) else (if 0 ≤ mw ((3 * (σ4 86 30)) + x1) ∧ mw ((3 * (σ4 86 30)) + x1) < (6 : Int) then mlm (mup σ4 97 (mw ((3 * (σ4 86 30)) + x1)).toNat r3) (fun σ5 => g_X12_telling_b37 F σ5) else none))) else (some (0, σ2)))
set_option maxRecDepth 100000 in
set_option maxHeartbeats 4000000 in
theorem c_X12_telling (l : Launch) (D : va_G) (cy : Nat → ClassId) (ad : Nat → Nat) (bs : Nat) (F : Nat)  (x1 x2 : Int) (σ : mMem) (r : Int) (σ' : mMem)  (hf : g_X12_telling F x1 x2 σ = some (r, σ')) : mCv l D cy ad bs yX12_telling cX12_telling 4 none 4 [.ref (ad 86), .int (mI x1), .int (mI x2)] σ σ' := by
  refine mCv.of (lv := [(0, .ref (ad 86)), (1, .int (mI x1)), (2, .int (mI x2))]) km_X12_telling.2.2.2.2.2 (Nat.le_of_ble_eq_true rfl) rfl (fun p e s m args below meth c H locs ls X hw hl => ?_)
  obtain ⟨⟨hx, hb, -, -, -⟩, -⟩ := id X
  unfold g_X12_telling at hf
  refine lv_aload_n hx hb dX12_telling_0 rfl (lv_at hl 0 rfl) ?_
  refine lv_iconst (v := mI 0) hx hb dX12_telling_1 rfl ?_
  refine r_cvi (rest := []) [.int (mI 0)] X hw (fun ra σa h => c_X12_counts l D cy ad bs F 0 σ ra σa  h) sh_86 rfl (by decide) rfl km_X12_counts kv_X12_counts lm_X12_368 dX12_telling_2 hl.1 rfl rfl (Nat.le_of_ble_eq_true rfl) ⟨by decide, by decide⟩ ⟨Nat.zero_le _, Nat.zero_le _⟩ hf (fun r1 σ2 _ hf H locs hw => ?_)
  refine r_if_ne (tgt := 9) X dX12_telling_5 (by decide) hf (fun hc hf => ?_) (fun hc hf => ?_)
  · refine lv_aload_n hx hb dX12_telling_9 rfl (lv_at hl 0 rfl) ?_
    refine lv_iconst (v := mI 0) hx hb dX12_telling_10 rfl ?_
    refine lv_iload_n hx hb dX12_telling_11 rfl (lv_at hl 2 rfl) ?_
    refine r_cvi (rest := []) [.int (mI 0), .int (mI x2)] X hw (fun ra σa h => c_X12_number l D cy ad bs F 0 x2 σ2 ra σa  h) sh_86 rfl (by decide) rfl km_X12_number kv_X12_number lm_X12_364 dX12_telling_12 hl.1 rfl rfl (Nat.le_of_ble_eq_true rfl) ⟨by decide, by decide⟩ ⟨Nat.zero_le _, Nat.zero_le _⟩ hf (fun r3 σ4 _ hf H locs hw => ?_)
    refine lv_istore_n (lv' := [(3, .int (mI r3)), (0, .ref (ad 86)), (1, .int (mI x1)), (2, .int (mI x2))]) hx hb dX12_telling_15 rfl hl (by decide) rfl (fun ls hl => ?_)
    refine lv_aload_n hx hb dX12_telling_16 rfl (lv_at hl 1 rfl) ?_
    refine r_geti X hw sh_86 fd_12_8 rfl lf_X12_36 dX12_telling_17 ?_
    refine r_if_ne (tgt := 37) X dX12_telling_20 (by decide) hf (fun hc hf => ?_) (fun hc hf => ?_)
    · exact w_X12_telling_b37 X hw (lv_sub hl [1] rfl) hf
    · refine lv_aload_n hx hb dX12_telling_23 rfl (lv_at hl 1 rfl) ?_
      refine r_getr 97 X hw sh_86 fd_12_23 rfl rfl lf_X12_81 dX12_telling_24 ?_
      refine lv_iconst (v := mI 3) hx hb dX12_telling_27 rfl ?_
      refine lv_aload_n hx hb dX12_telling_28 rfl (lv_at hl 1 rfl) ?_
      refine r_geti X hw sh_86 fd_12_30 rfl lf_X12_103 dX12_telling_29 ?_
      refine r_imul X dX12_telling_32 ?_
      refine lv_iload_n hx hb dX12_telling_33 rfl (lv_at hl 2 rfl) ?_
      refine r_iadd X dX12_telling_34 ?_
      refine lv_iload_n hx hb dX12_telling_35 rfl (lv_at hl 0 rfl) ?_
      refine r_iast (6 : Int) rfl X hw sh_97 dX12_telling_36 hf (fun hf H locs hw => ?_)
      refine r_mem hf hw (fun σ5 hw hf => ?_)
      exact w_X12_telling_b37 X hw (lv_sub hl [1] rfl) hf
  · exact r_vret X hw dX12_telling_8 hf
def g_X12_statement_b186 (F : Nat)  (σ : mMem) : mRs := some (0, σ)
set_option maxRecDepth 100000 in
set_option maxHeartbeats 4000000 in
theorem w_X12_statement_b186 {p : Program} {l : Launch} {e : Env} {s : State} {m : MethodId} {args : Array Value} {below : List Frame} {meth : Method} {c : Code} {D : va_G} {cy : Nat → ClassId} {ad : Nat → Nat} {bs : Nat} {F : Nat}  (X : mCx p m c cX12_statement 1 s args RX12 meth D cy none)  {r : Int} {σ' : mMem}    {σ : mMem} {H : Heap} {locs : List Loc} {ls : Array Slot} (hw : mWd D cy ad bs true mN σ s.heap H locs) (hl : lv_has ls 1 [(0, .ref (ad 86))]) (hf : g_X12_statement_b186 F  σ = some (r, σ')) : mGv p l e 7 s m args below meth c D cy ad bs σ' H locs (F0 m 186 ls []) := by
  obtain ⟨⟨hx, hb, -, -, -⟩, -⟩ := id X
  unfold g_X12_statement_b186 at hf
  exact r_vret X hw dX12_statement_186 hf
def g_X12_statement (F : Nat) (σ : mMem) : mRs := mob (g_X12_lex F σ) (fun r1 σ2 => if mw (σ2 86 8) ≤ 0 then (mob (g_X12_isWord F 1735550329 σ2) (fun r3 σ4 => if mw r3 = 0 then (mob (g_X12_isWord F 6451064 σ4) (fun r5 σ6 => if mw r5 = 0 then (mob (g_X12_isWord F 1702454643 σ6) (fun r7 σ8 => if mw r7 = 0 then (mob (g_X12_isWord F 1651073395 σ8) (fun r9 σ10 => if mw r9 = 0 then (mob (g_X12_isWord F 126943754547827 σ10) (fun r11 σ12 => if mw r11 = 0 then (mob (g_X12_isWord F 1735353715 σ12) (fun r13 σ14 => if mw r13 = 0 then (mob (g_X12_isWord F 482906432882 σ14) (fun r15 σ16 => if mw r15 = 0 then (mob (g_X12_isWord F 1818324336 σ16) (fun r17 σ18 => if mw r17 = 0 then (mob (g_X12_isWord F 6513012 σ18) (fun r19 σ20 => if mw r19 = 0 then (mob (g_X12_blame F 1 (σ20 86 4) σ20) (fun r21 σ22 => g_X12_statement_b186 F σ22)) else (mob (g_X12_telling F 2 100 σ20) (fun r23 σ24 => g_X12_statement_b186 F σ24)))) else (mob (g_X12_telling F 1 9 σ18) (fun r25 σ26 => g_X12_statement_b186 F σ26)))) else (mob (g_X12_telling F 0 999 σ16) (fun r27 σ28 => g_X12_statement_b186 F σ28)))) else (mob (g_X12_reading F 1 σ14) (fun r29 σ30 => g_X12_statement_b186 F σ30)))) else (mob (g_X12_reading F 0 σ12) (fun r31 σ32 => g_X12_statement_b186 F σ32)))) else (mob (g_X12_biasing F σ10) (fun r33 σ34 => g_X12_statement_b186 F σ34)))) else (mob (g_X12_eyeing F σ8) (fun r35 σ36 => g_X12_statement_b186 F σ36)))) else (mob (g_X12_boxing F σ6) (fun r37 σ38 => g_X12_statement_b186 F σ38)))) else (mob (g_X12_greying F σ4) (fun r39 σ40 => g_X12_statement_b186 F σ40)))) else (some (0, σ2)))
set_option maxRecDepth 100000 in
set_option maxHeartbeats 4000000 in
theorem c_X12_statement (l : Launch) (D : va_G) (cy : Nat → ClassId) (ad : Nat → Nat) (bs : Nat) (F : Nat)   (σ : mMem) (r : Int) (σ' : mMem)  (hf : g_X12_statement F  σ = some (r, σ')) : mCv l D cy ad bs yX12_statement cX12_statement 1 none 7 [.ref (ad 86)] σ σ' := by
  refine mCv.of (lv := [(0, .ref (ad 86))]) km_X12_statement.2.2.2.2.2 (Nat.le_of_ble_eq_true rfl) rfl (fun p e s m args below meth c H locs ls X hw hl => ?_)
  obtain ⟨⟨hx, hb, -, -, -⟩, -⟩ := id X
  unfold g_X12_statement at hf
  refine lv_aload_n hx hb dX12_statement_0 rfl (lv_at hl 0 rfl) ?_
  refine r_cvv (rest := []) [] X hw (fun ra σa h => c_X12_lex l D cy ad bs F σ ra σa  h) sh_86 rfl (by decide) rfl km_X12_lex kv_X12_lex lm_X12_253 dX12_statement_1 hl.1 rfl rfl (Nat.le_of_ble_eq_true rfl) ⟨by decide, by decide⟩ ⟨Nat.zero_le _, Nat.zero_le _⟩ hf (fun r1 σ2 _ hf H locs hw => ?_)
  refine lv_aload_n hx hb dX12_statement_4 rfl (lv_at hl 0 rfl) ?_
  refine r_geti X hw sh_86 fd_12_8 rfl lf_X12_36 dX12_statement_5 ?_
  refine r_if_le (tgt := 12) X dX12_statement_8 (by decide) hf (fun hc hf => ?_) (fun hc hf => ?_)
  · refine lv_aload_n hx hb dX12_statement_12 rfl (lv_at hl 0 rfl) ?_
    refine r_ldc2 (z := 1735550329) (by decide) X lc_X12_266 dX12_statement_13 ?_
    refine r_cvi (rest := []) [.long (mL 1735550329)] X hw (fun ra σa h => c_X12_isWord l D cy ad bs F 1735550329 σ2 ra σa  h) sh_86 rfl (by decide) rfl km_X12_isWord kv_X12_isWord lm_X12_334 dX12_statement_16 hl.1 rfl rfl (Nat.le_of_ble_eq_true rfl) ⟨by decide, by decide⟩ ⟨Nat.zero_le _, Nat.zero_le _⟩ hf (fun r3 σ4 _ hf H locs hw => ?_)
    refine r_if_eq (tgt := 29) X dX12_statement_19 (by decide) hf (fun hc hf => ?_) (fun hc hf => ?_)
    · refine lv_aload_n hx hb dX12_statement_29 rfl (lv_at hl 0 rfl) ?_
      refine r_ldc2 (z := 6451064) (by decide) X lc_X12_268 dX12_statement_30 ?_
      refine r_cvi (rest := []) [.long (mL 6451064)] X hw (fun ra σa h => c_X12_isWord l D cy ad bs F 6451064 σ4 ra σa  h) sh_86 rfl (by decide) rfl km_X12_isWord kv_X12_isWord lm_X12_334 dX12_statement_33 hl.1 rfl rfl (Nat.le_of_ble_eq_true rfl) ⟨by decide, by decide⟩ ⟨Nat.zero_le _, Nat.zero_le _⟩ hf (fun r5 σ6 _ hf H locs hw => ?_)
      refine r_if_eq (tgt := 46) X dX12_statement_36 (by decide) hf (fun hc hf => ?_) (fun hc hf => ?_)
      · refine lv_aload_n hx hb dX12_statement_46 rfl (lv_at hl 0 rfl) ?_
        refine r_ldc2 (z := 1702454643) (by decide) X lc_X12_274 dX12_statement_47 ?_
        refine r_cvi (rest := []) [.long (mL 1702454643)] X hw (fun ra σa h => c_X12_isWord l D cy ad bs F 1702454643 σ6 ra σa  h) sh_86 rfl (by decide) rfl km_X12_isWord kv_X12_isWord lm_X12_334 dX12_statement_50 hl.1 rfl rfl (Nat.le_of_ble_eq_true rfl) ⟨by decide, by decide⟩ ⟨Nat.zero_le _, Nat.zero_le _⟩ hf (fun r7 σ8 _ hf H locs hw => ?_)
        refine r_if_eq (tgt := 63) X dX12_statement_53 (by decide) hf (fun hc hf => ?_) (fun hc hf => ?_)
        · refine lv_aload_n hx hb dX12_statement_63 rfl (lv_at hl 0 rfl) ?_
          refine r_ldc2 (z := 1651073395) (by decide) X lc_X12_280 dX12_statement_64 ?_
          refine r_cvi (rest := []) [.long (mL 1651073395)] X hw (fun ra σa h => c_X12_isWord l D cy ad bs F 1651073395 σ8 ra σa  h) sh_86 rfl (by decide) rfl km_X12_isWord kv_X12_isWord lm_X12_334 dX12_statement_67 hl.1 rfl rfl (Nat.le_of_ble_eq_true rfl) ⟨by decide, by decide⟩ ⟨Nat.zero_le _, Nat.zero_le _⟩ hf (fun r9 σ10 _ hf H locs hw => ?_)
          refine r_if_eq (tgt := 80) X dX12_statement_70 (by decide) hf (fun hc hf => ?_) (fun hc hf => ?_)
          · refine lv_aload_n hx hb dX12_statement_80 rfl (lv_at hl 0 rfl) ?_
            refine r_ldc2 (z := 126943754547827) (by decide) X lc_X12_282 dX12_statement_81 ?_
            refine r_cvi (rest := []) [.long (mL 126943754547827)] X hw (fun ra σa h => c_X12_isWord l D cy ad bs F 126943754547827 σ10 ra σa  h) sh_86 rfl (by decide) rfl km_X12_isWord kv_X12_isWord lm_X12_334 dX12_statement_84 hl.1 rfl rfl (Nat.le_of_ble_eq_true rfl) ⟨by decide, by decide⟩ ⟨Nat.zero_le _, Nat.zero_le _⟩ hf (fun r11 σ12 _ hf H locs hw => ?_)
            refine r_if_eq (tgt := 98) X dX12_statement_87 (by decide) hf (fun hc hf => ?_) (fun hc hf => ?_)
            · refine lv_aload_n hx hb dX12_statement_98 rfl (lv_at hl 0 rfl) ?_
              refine r_ldc2 (z := 1735353715) (by decide) X lc_X12_284 dX12_statement_99 ?_
              refine r_cvi (rest := []) [.long (mL 1735353715)] X hw (fun ra σa h => c_X12_isWord l D cy ad bs F 1735353715 σ12 ra σa  h) sh_86 rfl (by decide) rfl km_X12_isWord kv_X12_isWord lm_X12_334 dX12_statement_102 hl.1 rfl rfl (Nat.le_of_ble_eq_true rfl) ⟨by decide, by decide⟩ ⟨Nat.zero_le _, Nat.zero_le _⟩ hf (fun r13 σ14 _ hf H locs hw => ?_)
              refine r_if_eq (tgt := 116) X dX12_statement_105 (by decide) hf (fun hc hf => ?_) (fun hc hf => ?_)
              · refine lv_aload_n hx hb dX12_statement_116 rfl (lv_at hl 0 rfl) ?_
                refine r_ldc2 (z := 482906432882) (by decide) X lc_X12_286 dX12_statement_117 ?_
                refine r_cvi (rest := []) [.long (mL 482906432882)] X hw (fun ra σa h => c_X12_isWord l D cy ad bs F 482906432882 σ14 ra σa  h) sh_86 rfl (by decide) rfl km_X12_isWord kv_X12_isWord lm_X12_334 dX12_statement_120 hl.1 rfl rfl (Nat.le_of_ble_eq_true rfl) ⟨by decide, by decide⟩ ⟨Nat.zero_le _, Nat.zero_le _⟩ hf (fun r15 σ16 _ hf H locs hw => ?_)
                refine r_if_eq (tgt := 137) X dX12_statement_123 (by decide) hf (fun hc hf => ?_) (fun hc hf => ?_)
                · refine lv_aload_n hx hb dX12_statement_137 rfl (lv_at hl 0 rfl) ?_
                  refine r_ldc2 (z := 1818324336) (by decide) X lc_X12_288 dX12_statement_138 ?_
                  refine r_cvi (rest := []) [.long (mL 1818324336)] X hw (fun ra σa h => c_X12_isWord l D cy ad bs F 1818324336 σ16 ra σa  h) sh_86 rfl (by decide) rfl km_X12_isWord kv_X12_isWord lm_X12_334 dX12_statement_141 hl.1 rfl rfl (Nat.le_of_ble_eq_true rfl) ⟨by decide, by decide⟩ ⟨Nat.zero_le _, Nat.zero_le _⟩ hf (fun r17 σ18 _ hf H locs hw => ?_)
                  refine r_if_eq (tgt := 157) X dX12_statement_144 (by decide) hf (fun hc hf => ?_) (fun hc hf => ?_)
                  · refine lv_aload_n hx hb dX12_statement_157 rfl (lv_at hl 0 rfl) ?_
                    refine r_ldc2 (z := 6513012) (by decide) X lc_X12_290 dX12_statement_158 ?_
                    refine r_cvi (rest := []) [.long (mL 6513012)] X hw (fun ra σa h => c_X12_isWord l D cy ad bs F 6513012 σ18 ra σa  h) sh_86 rfl (by decide) rfl km_X12_isWord kv_X12_isWord lm_X12_334 dX12_statement_161 hl.1 rfl rfl (Nat.le_of_ble_eq_true rfl) ⟨by decide, by decide⟩ ⟨Nat.zero_le _, Nat.zero_le _⟩ hf (fun r19 σ20 _ hf H locs hw => ?_)
                    refine r_if_eq (tgt := 177) X dX12_statement_164 (by decide) hf (fun hc hf => ?_) (fun hc hf => ?_)
                    · refine lv_aload_n hx hb dX12_statement_177 rfl (lv_at hl 0 rfl) ?_
                      refine lv_iconst (v := mI 1) hx hb dX12_statement_178 rfl ?_
                      refine lv_aload_n hx hb dX12_statement_179 rfl (lv_at hl 0 rfl) ?_
                      refine r_geti X hw sh_86 fd_12_4 rfl lf_X12_23 dX12_statement_180 ?_
                      refine r_cvv (rest := []) [.int (mI 1), .int (mI (σ20 86 4))] X hw (fun ra σa h => c_X12_blame l D cy ad bs F 1 (σ20 86 4) σ20 ra σa  h) sh_86 rfl (by decide) rfl km_X12_blame kv_X12_blame lm_X12_242 dX12_statement_183 hl.1 rfl rfl (Nat.le_of_ble_eq_true rfl) ⟨by decide, by decide⟩ ⟨Nat.zero_le _, Nat.zero_le _⟩ hf (fun r21 σ22 _ hf H locs hw => ?_)
                      exact w_X12_statement_b186 X hw (lv_sub hl [0] rfl) hf
                    · refine lv_aload_n hx hb dX12_statement_167 rfl (lv_at hl 0 rfl) ?_
                      refine lv_iconst (v := mI 2) hx hb dX12_statement_168 rfl ?_
                      refine lv_bipush (v := mI 100) hx hb dX12_statement_169 (by decide) ?_
                      refine r_cvv (rest := []) [.int (mI 2), .int (mI 100)] X hw (fun ra σa h => c_X12_telling l D cy ad bs F 2 100 σ20 ra σa  h) sh_86 rfl (by decide) rfl km_X12_telling kv_X12_telling lm_X12_399 dX12_statement_171 hl.1 rfl rfl (Nat.le_of_ble_eq_true rfl) ⟨by decide, by decide⟩ ⟨Nat.zero_le _, Nat.zero_le _⟩ hf (fun r23 σ24 _ hf H locs hw => ?_)
                      refine lv_goto (tgt := 186) hx hb dX12_statement_174 (by decide) ?_
                      exact w_X12_statement_b186 X hw (lv_sub hl [0] rfl) hf
                  · refine lv_aload_n hx hb dX12_statement_147 rfl (lv_at hl 0 rfl) ?_
                    refine lv_iconst (v := mI 1) hx hb dX12_statement_148 rfl ?_
                    refine lv_bipush (v := mI 9) hx hb dX12_statement_149 (by decide) ?_
                    refine r_cvv (rest := []) [.int (mI 1), .int (mI 9)] X hw (fun ra σa h => c_X12_telling l D cy ad bs F 1 9 σ18 ra σa  h) sh_86 rfl (by decide) rfl km_X12_telling kv_X12_telling lm_X12_399 dX12_statement_151 hl.1 rfl rfl (Nat.le_of_ble_eq_true rfl) ⟨by decide, by decide⟩ ⟨Nat.zero_le _, Nat.zero_le _⟩ hf (fun r25 σ26 _ hf H locs hw => ?_)
                    refine lv_goto (tgt := 186) hx hb dX12_statement_154 (by decide) ?_
                    exact w_X12_statement_b186 X hw (lv_sub hl [0] rfl) hf
                · refine lv_aload_n hx hb dX12_statement_126 rfl (lv_at hl 0 rfl) ?_
                  refine lv_iconst (v := mI 0) hx hb dX12_statement_127 rfl ?_
                  refine lv_sipush (v := mI 999) hx hb dX12_statement_128 (by decide) ?_
                  refine r_cvv (rest := []) [.int (mI 0), .int (mI 999)] X hw (fun ra σa h => c_X12_telling l D cy ad bs F 0 999 σ16 ra σa  h) sh_86 rfl (by decide) rfl km_X12_telling kv_X12_telling lm_X12_399 dX12_statement_131 hl.1 rfl rfl (Nat.le_of_ble_eq_true rfl) ⟨by decide, by decide⟩ ⟨Nat.zero_le _, Nat.zero_le _⟩ hf (fun r27 σ28 _ hf H locs hw => ?_)
                  refine lv_goto (tgt := 186) hx hb dX12_statement_134 (by decide) ?_
                  exact w_X12_statement_b186 X hw (lv_sub hl [0] rfl) hf
              · refine lv_aload_n hx hb dX12_statement_108 rfl (lv_at hl 0 rfl) ?_
                refine lv_iconst (v := mI 1) hx hb dX12_statement_109 rfl ?_
                refine r_cvv (rest := []) [.int (mI 1)] X hw (fun ra σa h => c_X12_reading l D cy ad bs F 1 σ14 ra σa  h) sh_86 rfl (by decide) rfl km_X12_reading kv_X12_reading lm_X12_396 dX12_statement_110 hl.1 rfl rfl (Nat.le_of_ble_eq_true rfl) ⟨by decide, by decide⟩ ⟨Nat.zero_le _, Nat.zero_le _⟩ hf (fun r29 σ30 _ hf H locs hw => ?_)
                refine lv_goto (tgt := 186) hx hb dX12_statement_113 (by decide) ?_
                exact w_X12_statement_b186 X hw (lv_sub hl [0] rfl) hf
            · refine lv_aload_n hx hb dX12_statement_90 rfl (lv_at hl 0 rfl) ?_
              refine lv_iconst (v := mI 0) hx hb dX12_statement_91 rfl ?_
              refine r_cvv (rest := []) [.int (mI 0)] X hw (fun ra σa h => c_X12_reading l D cy ad bs F 0 σ12 ra σa  h) sh_86 rfl (by decide) rfl km_X12_reading kv_X12_reading lm_X12_396 dX12_statement_92 hl.1 rfl rfl (Nat.le_of_ble_eq_true rfl) ⟨by decide, by decide⟩ ⟨Nat.zero_le _, Nat.zero_le _⟩ hf (fun r31 σ32 _ hf H locs hw => ?_)
              refine lv_goto (tgt := 186) hx hb dX12_statement_95 (by decide) ?_
              exact w_X12_statement_b186 X hw (lv_sub hl [0] rfl) hf
          · refine lv_aload_n hx hb dX12_statement_73 rfl (lv_at hl 0 rfl) ?_
            refine r_cvv (rest := []) [] X hw (fun ra σa h => c_X12_biasing l D cy ad bs F σ10 ra σa  h) sh_86 rfl (by decide) rfl km_X12_biasing kv_X12_biasing lm_X12_393 dX12_statement_74 hl.1 rfl rfl (Nat.le_of_ble_eq_true rfl) ⟨by decide, by decide⟩ ⟨Nat.zero_le _, Nat.zero_le _⟩ hf (fun r33 σ34 _ hf H locs hw => ?_)
            refine lv_goto (tgt := 186) hx hb dX12_statement_77 (by decide) ?_
            exact w_X12_statement_b186 X hw (lv_sub hl [0] rfl) hf
        · refine lv_aload_n hx hb dX12_statement_56 rfl (lv_at hl 0 rfl) ?_
          refine r_cvv (rest := []) [] X hw (fun ra σa h => c_X12_eyeing l D cy ad bs F σ8 ra σa  h) sh_86 rfl (by decide) rfl km_X12_eyeing kv_X12_eyeing lm_X12_390 dX12_statement_57 hl.1 rfl rfl (Nat.le_of_ble_eq_true rfl) ⟨by decide, by decide⟩ ⟨Nat.zero_le _, Nat.zero_le _⟩ hf (fun r35 σ36 _ hf H locs hw => ?_)
          refine lv_goto (tgt := 186) hx hb dX12_statement_60 (by decide) ?_
          exact w_X12_statement_b186 X hw (lv_sub hl [0] rfl) hf
      · refine lv_aload_n hx hb dX12_statement_39 rfl (lv_at hl 0 rfl) ?_
        refine r_cvv (rest := []) [] X hw (fun ra σa h => c_X12_boxing l D cy ad bs F σ6 ra σa  h) sh_86 rfl (by decide) rfl km_X12_boxing kv_X12_boxing lm_X12_387 dX12_statement_40 hl.1 rfl rfl (Nat.le_of_ble_eq_true rfl) ⟨by decide, by decide⟩ ⟨Nat.zero_le _, Nat.zero_le _⟩ hf (fun r37 σ38 _ hf H locs hw => ?_)
        refine lv_goto (tgt := 186) hx hb dX12_statement_43 (by decide) ?_
        exact w_X12_statement_b186 X hw (lv_sub hl [0] rfl) hf
    · refine lv_aload_n hx hb dX12_statement_22 rfl (lv_at hl 0 rfl) ?_
      refine r_cvv (rest := []) [] X hw (fun ra σa h => c_X12_greying l D cy ad bs F σ4 ra σa  h) sh_86 rfl (by decide) rfl km_X12_greying kv_X12_greying lm_X12_384 dX12_statement_23 hl.1 rfl rfl (Nat.le_of_ble_eq_true rfl) ⟨by decide, by decide⟩ ⟨Nat.zero_le _, Nat.zero_le _⟩ hf (fun r39 σ40 _ hf H locs hw => ?_)
      refine lv_goto (tgt := 186) hx hb dX12_statement_26 (by decide) ?_
      exact w_X12_statement_b186 X hw (lv_sub hl [0] rfl) hf
  · exact r_vret X hw dX12_statement_11 hf
def g_X12_finishes_b83 (F : Nat)  (σ : mMem) : mRs := mob (g_X12_must F 59 σ) (fun r408 σ409 => some (0, σ409))
set_option maxRecDepth 100000 in
set_option maxHeartbeats 4000000 in
theorem w_X12_finishes_b83 {p : Program} {l : Launch} {e : Env} {s : State} {m : MethodId} {args : Array Value} {below : List Frame} {meth : Method} {c : Code} {D : va_G} {cy : Nat → ClassId} {ad : Nat → Nat} {bs : Nat} {F : Nat}  (X : mCx p m c cX12_finishes 3 s args RX12 meth D cy none)  {r : Int} {σ' : mMem}    {σ : mMem} {H : Heap} {locs : List Loc} {ls : Array Slot} (hw : mWd D cy ad bs true mN σ s.heap H locs) (hl : lv_has ls 3 [(0, .ref (ad 86))]) (hf : g_X12_finishes_b83 F  σ = some (r, σ')) : mGv p l e 4 s m args below meth c D cy ad bs σ' H locs (F0 m 83 ls []) := by
  obtain ⟨⟨hx, hb, -, -, -⟩, -⟩ := id X
  unfold g_X12_finishes_b83 at hf
  refine lv_aload_n hx hb dX12_finishes_83 rfl (lv_at hl 0 rfl) ?_
  refine lv_bipush (v := mI 59) hx hb dX12_finishes_84 (by decide) ?_
  refine r_cvv (rest := []) [.int (mI 59)] X hw (fun ra σa h => c_X12_must l D cy ad bs F 59 σ ra σa  h) sh_86 rfl (by decide) rfl km_X12_must kv_X12_must lm_X12_402 dX12_finishes_86 hl.1 rfl rfl (Nat.le_of_ble_eq_true rfl) ⟨by decide, by decide⟩ ⟨Nat.zero_le _, Nat.zero_le _⟩ hf (fun r408 σ409 _ hf H locs hw => ?_)
  exact r_vret X hw dX12_finishes_89 hf
def g_X12_finishes_b53 (F : Nat)  (x1 x2 : Int) (σ : mMem) : mRs := mob (g_X12_isSign F 59 σ) (fun r204 σ205 => if mw r204 = 0 then (g_X12_finishes_b83 F σ205) else (if ¬ mw x1 = mw 80 then (g_X12_finishes_b83 F σ205) else (if mw (σ205 86 2) ≤ mw x2 then (g_X12_finishes_b83 F σ205) else (mob (g_X12_blame F 6 x2 σ205) (fun r206 σ207 => g_X12_finishes_b83 F σ207)))))
set_option maxRecDepth 100000 in
set_option maxHeartbeats 4000000 in
theorem w_X12_finishes_b53 {p : Program} {l : Launch} {e : Env} {s : State} {m : MethodId} {args : Array Value} {below : List Frame} {meth : Method} {c : Code} {D : va_G} {cy : Nat → ClassId} {ad : Nat → Nat} {bs : Nat} {F : Nat}  (X : mCx p m c cX12_finishes 3 s args RX12 meth D cy none)  {r : Int} {σ' : mMem}   {x1 x2 : Int} {σ : mMem} {H : Heap} {locs : List Loc} {ls : Array Slot} (hw : mWd D cy ad bs true mN σ s.heap H locs) (hl : lv_has ls 3 [(0, .ref (ad 86)), (1, .int (mI x1)), (2, .int (mI x2))]) (hf : g_X12_finishes_b53 F x1 x2 σ = some (r, σ')) : mGv p l e 4 s m args below meth c D cy ad bs σ' H locs (F0 m 53 ls []) := by
  obtain ⟨⟨hx, hb, -, -, -⟩, -⟩ := id X
  unfold g_X12_finishes_b53 at hf
  refine lv_aload_n hx hb dX12_finishes_53 rfl (lv_at hl 0 rfl) ?_
  refine lv_bipush (v := mI 59) hx hb dX12_finishes_54 (by decide) ?_
  refine r_cvi (rest := []) [.int (mI 59)] X hw (fun ra σa h => c_X12_isSign l D cy ad bs F 59 σ ra σa  h) sh_86 rfl (by decide) rfl km_X12_isSign kv_X12_isSign lm_X12_256 dX12_finishes_56 hl.1 rfl rfl (Nat.le_of_ble_eq_true rfl) ⟨by decide, by decide⟩ ⟨Nat.zero_le _, Nat.zero_le _⟩ hf (fun r204 σ205 _ hf H locs hw => ?_)
  refine r_if_eq (tgt := 83) X dX12_finishes_59 (by decide) hf (fun hc hf => ?_) (fun hc hf => ?_)
  · exact w_X12_finishes_b83 X hw (lv_sub hl [0] rfl) hf
  · refine lv_iload_n hx hb dX12_finishes_62 rfl (lv_at hl 1 rfl) ?_
    refine lv_bipush (v := mI 80) hx hb dX12_finishes_63 (by decide) ?_
    refine r_icmp_ne (tgt := 83) X dX12_finishes_65 (by decide) hf (fun hc hf => ?_) (fun hc hf => ?_)
    · exact w_X12_finishes_b83 X hw (lv_sub hl [0] rfl) hf
    · refine lv_iload_n hx hb dX12_finishes_68 rfl (lv_at hl 2 rfl) ?_
      refine lv_aload_n hx hb dX12_finishes_69 rfl (lv_at hl 0 rfl) ?_
      refine r_geti X hw sh_86 fd_12_2 rfl lf_X12_17 dX12_finishes_70 ?_
      refine r_icmp_ge (tgt := 83) X dX12_finishes_73 (by decide) hf (fun hc hf => ?_) (fun hc hf => ?_)
      · exact w_X12_finishes_b83 X hw (lv_sub hl [0] rfl) hf
      · refine lv_aload_n hx hb dX12_finishes_76 rfl (lv_at hl 0 rfl) ?_
        refine lv_bipush (v := mI 6) hx hb dX12_finishes_77 (by decide) ?_
        refine lv_iload_n hx hb dX12_finishes_79 rfl (lv_at hl 2 rfl) ?_
        refine r_cvv (rest := []) [.int (mI 6), .int (mI x2)] X hw (fun ra σa h => c_X12_blame l D cy ad bs F 6 x2 σ205 ra σa  h) sh_86 rfl (by decide) rfl km_X12_blame kv_X12_blame lm_X12_242 dX12_finishes_80 hl.1 rfl rfl (Nat.le_of_ble_eq_true rfl) ⟨by decide, by decide⟩ ⟨Nat.zero_le _, Nat.zero_le _⟩ hf (fun r206 σ207 _ hf H locs hw => ?_)
        exact w_X12_finishes_b83 X hw (lv_sub hl [0] rfl) hf
def g_X12_finishes_b47 (F : Nat) (k17 : Int → Int → mMem → mRs) (x1 x2 : Int) (σ : mMem) : mRs := k17 x1 (x2 + 1) σ
set_option maxRecDepth 100000 in
set_option maxHeartbeats 4000000 in
theorem w_X12_finishes_b47 {p : Program} {l : Launch} {e : Env} {s : State} {m : MethodId} {args : Array Value} {below : List Frame} {meth : Method} {c : Code} {D : va_G} {cy : Nat → ClassId} {ad : Nat → Nat} {bs : Nat} {F : Nat}  (X : mCx p m c cX12_finishes 3 s args RX12 meth D cy none)  {r : Int} {σ' : mMem} {k17 : Int → Int → mMem → mRs} (hk17 : ∀ (x1 x2 : Int) (σ : mMem) (H : Heap) (locs : List Loc) (ls : Array Slot), mWd D cy ad bs true mN σ s.heap H locs → lv_has ls 3 [(0, .ref (ad 86)), (1, .int (mI x1)), (2, .int (mI x2))] → k17 x1 x2 σ = some (r, σ') → mGv p l e 4 s m args below meth c D cy ad bs σ' H locs (F0 m 17 ls [])) {x1 x2 : Int} {σ : mMem} {H : Heap} {locs : List Loc} {ls : Array Slot} (hw : mWd D cy ad bs true mN σ s.heap H locs) (hl : lv_has ls 3 [(0, .ref (ad 86)), (1, .int (mI x1)), (2, .int (mI x2))]) (hf : g_X12_finishes_b47 F k17 x1 x2 σ = some (r, σ')) : mGv p l e 4 s m args below meth c D cy ad bs σ' H locs (F0 m 47 ls []) := by
  obtain ⟨⟨hx, hb, -, -, -⟩, -⟩ := id X
  unfold g_X12_finishes_b47 at hf
  refine lv_iinc (v := mI (x2 + 1)) (lv' := [(2, .int (mI (x2 + 1))), (0, .ref (ad 86)), (1, .int (mI x1))]) hx hb dX12_finishes_47 hl (k := 2) rfl (mI_add _ _) (by decide) rfl (fun ls hl => ?_)
  refine lv_goto (tgt := 17) hx hb dX12_finishes_50 (by decide) ?_
  exact hk17 x1 (x2 + 1) σ _ _ _ hw (lv_sub hl [1, 2, 0] rfl) hf
def g_X12_finishes_h17 (F : Nat)  : Nat → Int → Int → mMem → mRs
  | 0, _, _, _ => none
  | n + 1, x1, x2, σ => if mw (σ 86 2) ≤ mw x2 then (g_X12_finishes_b53 F x1 x2 σ) else (if 0 ≤ mw x2 ∧ mw x2 < (1800 : Int) then if mw (σ 87 (mw x2).toNat) = mw 32 then (g_X12_finishes_b47 F (g_X12_finishes_h17 F n) x1 x2 σ) else (if 0 ≤ mw x2 ∧ mw x2 < (1800 : Int) then if ¬ mw (σ 87 (mw x2).toNat) = mw 10 then (g_X12_finishes_b53 F x1 x2 σ) else (g_X12_finishes_b47 F (g_X12_finishes_h17 F n) x1 x2 σ) else none) else none)
set_option maxRecDepth 100000 in
set_option maxHeartbeats 4000000 in
theorem w_X12_finishes_h17 {p : Program} {l : Launch} {e : Env} {s : State} {m : MethodId} {args : Array Value} {below : List Frame} {meth : Method} {c : Code} {D : va_G} {cy : Nat → ClassId} {ad : Nat → Nat} {bs : Nat} {F : Nat}  (X : mCx p m c cX12_finishes 3 s args RX12 meth D cy none)  {r : Int} {σ' : mMem}   (n : Nat) : ∀ {x1 x2 : Int} {σ : mMem} {H : Heap} {locs : List Loc} {ls : Array Slot} (_ : mWd D cy ad bs true mN σ s.heap H locs) (_ : lv_has ls 3 [(0, .ref (ad 86)), (1, .int (mI x1)), (2, .int (mI x2))]) (_ : g_X12_finishes_h17 F n x1 x2 σ = some (r, σ')), mGv p l e 4 s m args below meth c D cy ad bs σ' H locs (F0 m 17 ls []) := by
  obtain ⟨⟨hx, hb, -, -, -⟩, -⟩ := id X
  induction n with
  | zero =>
    intro x1 x2 σ H locs ls hw hl hf
    unfold g_X12_finishes_h17 at hf
    cases hf
  | succ n ih =>
    have hk17 : ∀ (x1 x2 : Int) (σ : mMem) (H : Heap) (locs : List Loc) (ls : Array Slot), mWd D cy ad bs true mN σ s.heap H locs → lv_has ls 3 [(0, .ref (ad 86)), (1, .int (mI x1)), (2, .int (mI x2))] → g_X12_finishes_h17 F n x1 x2 σ = some (r, σ') → mGv p l e 4 s m args below meth c D cy ad bs σ' H locs (F0 m 17 ls []) := fun x1 x2 σ H locs ls hw hl hf => ih hw hl hf
    intro x1 x2 σ H locs ls hw hl hf
    unfold g_X12_finishes_h17 at hf
    refine lv_iload_n hx hb dX12_finishes_17 rfl (lv_at hl 2 rfl) ?_
    refine lv_aload_n hx hb dX12_finishes_18 rfl (lv_at hl 0 rfl) ?_
    refine r_geti X hw sh_86 fd_12_2 rfl lf_X12_17 dX12_finishes_19 ?_
    refine r_icmp_ge (tgt := 53) X dX12_finishes_22 (by decide) hf (fun hc hf => ?_) (fun hc hf => ?_)
    · exact w_X12_finishes_b53 X hw (lv_sub hl [0, 1, 2] rfl) hf
    · refine lv_aload_n hx hb dX12_finishes_25 rfl (lv_at hl 0 rfl) ?_
      refine r_getr 87 X hw sh_86 fd_12_0 rfl rfl lf_X12_7 dX12_finishes_26 ?_
      refine lv_iload_n hx hb dX12_finishes_29 rfl (lv_at hl 2 rfl) ?_
      refine r_iald (1800 : Int) rfl X hw sh_87 dX12_finishes_30 hf (fun hf => ?_)
      refine lv_bipush (v := mI 32) hx hb dX12_finishes_31 (by decide) ?_
      refine r_icmp_eq (tgt := 47) X dX12_finishes_33 (by decide) hf (fun hc hf => ?_) (fun hc hf => ?_)
      · exact w_X12_finishes_b47 X hk17 hw (lv_sub hl [0, 1, 2] rfl) hf
      · refine lv_aload_n hx hb dX12_finishes_36 rfl (lv_at hl 0 rfl) ?_
        refine r_getr 87 X hw sh_86 fd_12_0 rfl rfl lf_X12_7 dX12_finishes_37 ?_
        refine lv_iload_n hx hb dX12_finishes_40 rfl (lv_at hl 2 rfl) ?_
        refine r_iald (1800 : Int) rfl X hw sh_87 dX12_finishes_41 hf (fun hf => ?_)
        refine lv_bipush (v := mI 10) hx hb dX12_finishes_42 (by decide) ?_
        refine r_icmp_ne (tgt := 53) X dX12_finishes_44 (by decide) hf (fun hc hf => ?_) (fun hc hf => ?_)
        · exact w_X12_finishes_b53 X hw (lv_sub hl [0, 1, 2] rfl) hf
        · exact w_X12_finishes_b47 X hk17 hw (lv_sub hl [0, 1, 2] rfl) hf
def g_X12_finishes (F : Nat) (x1 : Int) (σ : mMem) : mRs := mob (g_X12_lex F σ) (fun r1 σ2 => if mw (σ2 86 8) ≤ 0 then (mlet (σ2 86 5) (fun y3 => g_X12_finishes_h17 F F x1 y3 σ2)) else (some (0, σ2)))
set_option maxRecDepth 100000 in
set_option maxHeartbeats 4000000 in
theorem c_X12_finishes (l : Launch) (D : va_G) (cy : Nat → ClassId) (ad : Nat → Nat) (bs : Nat) (F : Nat)  (x1 : Int) (σ : mMem) (r : Int) (σ' : mMem)  (hf : g_X12_finishes F x1 σ = some (r, σ')) : mCv l D cy ad bs yX12_finishes cX12_finishes 3 none 4 [.ref (ad 86), .int (mI x1)] σ σ' := by
  refine mCv.of (lv := [(0, .ref (ad 86)), (1, .int (mI x1))]) km_X12_finishes.2.2.2.2.2 (Nat.le_of_ble_eq_true rfl) rfl (fun p e s m args below meth c H locs ls X hw hl => ?_)
  obtain ⟨⟨hx, hb, -, -, -⟩, -⟩ := id X
  unfold g_X12_finishes at hf
  refine lv_aload_n hx hb dX12_finishes_0 rfl (lv_at hl 0 rfl) ?_
  refine r_cvv (rest := []) [] X hw (fun ra σa h => c_X12_lex l D cy ad bs F σ ra σa  h) sh_86 rfl (by decide) rfl km_X12_lex kv_X12_lex lm_X12_253 dX12_finishes_1 hl.1 rfl rfl (Nat.le_of_ble_eq_true rfl) ⟨by decide, by decide⟩ ⟨Nat.zero_le _, Nat.zero_le _⟩ hf (fun r1 σ2 _ hf H locs hw => ?_)
  refine lv_aload_n hx hb dX12_finishes_4 rfl (lv_at hl 0 rfl) ?_
  refine r_geti X hw sh_86 fd_12_8 rfl lf_X12_36 dX12_finishes_5 ?_
  refine r_if_le (tgt := 12) X dX12_finishes_8 (by decide) hf (fun hc hf => ?_) (fun hc hf => ?_)
  · refine lv_aload_n hx hb dX12_finishes_12 rfl (lv_at hl 0 rfl) ?_
    refine r_geti X hw sh_86 fd_12_5 rfl lf_X12_26 dX12_finishes_13 ?_
    refine r_leti hf (fun y3 hf => ?_)
    refine lv_istore_n (lv' := [(2, .int (mI y3)), (0, .ref (ad 86)), (1, .int (mI x1))]) hx hb dX12_finishes_16 rfl hl (by decide) rfl (fun ls hl => ?_)
    exact w_X12_finishes_h17 X _ hw (lv_sub hl [1, 2, 0] rfl) hf
  · exact r_vret X hw dX12_finishes_11 hf
def g_X12_begin_h20 (F : Nat)  : Nat → Int → mMem → mRs
  | 0, _, _ => none
  | n + 1, x1, σ => if mw 6 ≤ mw x1 then (if 0 ≤ mw 0 ∧ mw 0 < (22 : Int) then mlm (mup σ 117 (mw 0).toNat 0) (fun σ105 => mlm (mup σ105 86 53 0) (fun σ106 => mlm (mup σ106 86 66 0) (fun σ107 => some (0, σ107)))) else none) else (if 0 ≤ mw ((6 * (σ 86 13)) + x1) ∧ mw ((6 * (σ 86 13)) + x1) < (12 : Int) then if 0 ≤ mw x1 ∧ mw x1 < (132 : Int) then mlm (mup σ 112 (mw x1).toNat (σ 92 (mw ((6 * (σ 86 13)) + x1)).toNat)) (fun σ108 => if 0 ≤ mw ((6 * (σ108 86 13)) + x1) ∧ mw ((6 * (σ108 86 13)) + x1) < (12 : Int) then if 0 ≤ mw x1 ∧ mw x1 < (132 : Int) then mlm (mup σ108 113 (mw x1).toNat (σ108 93 (mw ((6 * (σ108 86 13)) + x1)).toNat)) (fun σ109 => mob (g_X12_toldOf F 0 σ109) (fun r110 σ111 => if 0 ≤ mw x1 ∧ mw x1 < (132 : Int) then mlm (mup σ111 114 (mw x1).toNat r110) (fun σ112 => if 0 ≤ mw x1 ∧ mw x1 < (132 : Int) then mlm (mup σ112 115 (mw x1).toNat 0) (fun σ113 => if 0 ≤ mw x1 ∧ mw x1 < (132 : Int) then mlm (mup σ113 116 (mw x1).toNat 0) (fun σ114 => (g_X12_begin_h20 F n) (x1 + 1) σ114) else none) else none) else none)) else none else none) else none else none)
set_option maxRecDepth 100000 in
set_option maxHeartbeats 4000000 in
theorem w_X12_begin_h20 {p : Program} {l : Launch} {e : Env} {s : State} {m : MethodId} {args : Array Value} {below : List Frame} {meth : Method} {c : Code} {D : va_G} {cy : Nat → ClassId} {ad : Nat → Nat} {bs : Nat} {F : Nat}  (X : mCx p m c cX12_begin 2 s args RX12 meth D cy none)  {r : Int} {σ' : mMem}   (n : Nat) : ∀ {x1 : Int} {σ : mMem} {H : Heap} {locs : List Loc} {ls : Array Slot} (_ : mWd D cy ad bs true mN σ s.heap H locs) (_ : lv_has ls 2 [(0, .ref (ad 86)), (1, .int (mI x1))]) (_ : g_X12_begin_h20 F n x1 σ = some (r, σ')), mGv p l e 2 s m args below meth c D cy ad bs σ' H locs (F0 m 20 ls []) := by
  obtain ⟨⟨hx, hb, -, -, -⟩, -⟩ := id X
  induction n with
  | zero =>
    intro x1 σ H locs ls hw hl hf
    unfold g_X12_begin_h20 at hf
    cases hf
  | succ n ih =>
    have hk20 : ∀ (x1 : Int) (σ : mMem) (H : Heap) (locs : List Loc) (ls : Array Slot), mWd D cy ad bs true mN σ s.heap H locs → lv_has ls 2 [(0, .ref (ad 86)), (1, .int (mI x1))] → g_X12_begin_h20 F n x1 σ = some (r, σ') → mGv p l e 2 s m args below meth c D cy ad bs σ' H locs (F0 m 20 ls []) := fun x1 σ H locs ls hw hl hf => ih hw hl hf
    intro x1 σ H locs ls hw hl hf
    unfold g_X12_begin_h20 at hf
    refine lv_iload_n hx hb dX12_begin_20 rfl (lv_at hl 1 rfl) ?_
    refine lv_bipush (v := mI 6) hx hb dX12_begin_21 (by decide) ?_
    refine r_icmp_ge (tgt := 97) X dX12_begin_23 (by decide) hf (fun hc hf => ?_) (fun hc hf => ?_)
    · refine lv_aload_n hx hb dX12_begin_97 rfl (lv_at hl 0 rfl) ?_
      refine r_getr 117 X hw sh_86 fd_12_50 rfl rfl lf_X12_165 dX12_begin_98 ?_
      refine lv_iconst (v := mI 0) hx hb dX12_begin_101 rfl ?_
      refine lv_iconst (v := mI 0) hx hb dX12_begin_102 rfl ?_
      refine r_iast (22 : Int) rfl X hw sh_117 dX12_begin_103 hf (fun hf H locs hw => ?_)
      refine r_mem hf hw (fun σ105 hw hf => ?_)
      refine lv_aload_n hx hb dX12_begin_104 rfl (lv_at hl 0 rfl) ?_
      refine lv_iconst (v := mI 0) hx hb dX12_begin_105 rfl ?_
      refine r_puti X hw sh_86 fd_12_53 fp_12_53 rfl rfl lf_X12_174 dX12_begin_106 (fun H locs hw => ?_)
      refine r_mem hf hw (fun σ106 hw hf => ?_)
      refine lv_aload_n hx hb dX12_begin_109 rfl (lv_at hl 0 rfl) ?_
      refine lv_iconst (v := mI 0) hx hb dX12_begin_110 rfl ?_
      refine r_puti X hw sh_86 fd_12_66 fp_12_66 rfl rfl lf_X12_213 dX12_begin_111 (fun H locs hw => ?_)
      refine r_mem hf hw (fun σ107 hw hf => ?_)
      exact r_vret X hw dX12_begin_114 hf
    · refine lv_aload_n hx hb dX12_begin_26 rfl (lv_at hl 0 rfl) ?_
      refine r_getr 112 X hw sh_86 fd_12_45 rfl rfl lf_X12_150 dX12_begin_27 ?_
      refine lv_iload_n hx hb dX12_begin_30 rfl (lv_at hl 1 rfl) ?_
      refine lv_aload_n hx hb dX12_begin_31 rfl (lv_at hl 0 rfl) ?_
      refine r_getr 92 X hw sh_86 fd_12_18 rfl rfl lf_X12_66 dX12_begin_32 ?_
      refine lv_bipush (v := mI 6) hx hb dX12_begin_35 (by decide) ?_
      refine lv_aload_n hx hb dX12_begin_37 rfl (lv_at hl 0 rfl) ?_
      refine r_geti X hw sh_86 fd_12_13 rfl lf_X12_51 dX12_begin_38 ?_
      refine r_imul X dX12_begin_41 ?_
      refine lv_iload_n hx hb dX12_begin_42 rfl (lv_at hl 1 rfl) ?_
      refine r_iadd X dX12_begin_43 ?_
      refine r_iald (12 : Int) rfl X hw sh_92 dX12_begin_44 hf (fun hf => ?_)
      refine r_iast (132 : Int) rfl X hw sh_112 dX12_begin_45 hf (fun hf H locs hw => ?_)
      refine r_mem hf hw (fun σ108 hw hf => ?_)
      refine lv_aload_n hx hb dX12_begin_46 rfl (lv_at hl 0 rfl) ?_
      refine r_getr 113 X hw sh_86 fd_12_46 rfl rfl lf_X12_153 dX12_begin_47 ?_
      refine lv_iload_n hx hb dX12_begin_50 rfl (lv_at hl 1 rfl) ?_
      refine lv_aload_n hx hb dX12_begin_51 rfl (lv_at hl 0 rfl) ?_
      refine r_getr 93 X hw sh_86 fd_12_19 rfl rfl lf_X12_69 dX12_begin_52 ?_
      refine lv_bipush (v := mI 6) hx hb dX12_begin_55 (by decide) ?_
      refine lv_aload_n hx hb dX12_begin_57 rfl (lv_at hl 0 rfl) ?_
      refine r_geti X hw sh_86 fd_12_13 rfl lf_X12_51 dX12_begin_58 ?_
      refine r_imul X dX12_begin_61 ?_
      refine lv_iload_n hx hb dX12_begin_62 rfl (lv_at hl 1 rfl) ?_
      refine r_iadd X dX12_begin_63 ?_
      refine r_iald (12 : Int) rfl X hw sh_93 dX12_begin_64 hf (fun hf => ?_)
      refine r_iast (132 : Int) rfl X hw sh_113 dX12_begin_65 hf (fun hf H locs hw => ?_)
      refine r_mem hf hw (fun σ109 hw hf => ?_)
      refine lv_aload_n hx hb dX12_begin_66 rfl (lv_at hl 0 rfl) ?_
      refine r_getr 114 X hw sh_86 fd_12_47 rfl rfl lf_X12_156 dX12_begin_67 ?_
      refine lv_iload_n hx hb dX12_begin_70 rfl (lv_at hl 1 rfl) ?_
      refine lv_aload_n hx hb dX12_begin_71 rfl (lv_at hl 0 rfl) ?_
      refine lv_iconst (v := mI 0) hx hb dX12_begin_72 rfl ?_
      refine r_cvi (rest := [.int (mI x1), .ref (ad 114)]) [.int (mI 0)] X hw (fun ra σa h => c_X12_toldOf l D cy ad bs F 0 σ109 ra σa  h) sh_86 rfl (by decide) rfl km_X12_toldOf kv_X12_toldOf lm_X12_415 dX12_begin_73 hl.1 rfl rfl (Nat.le_of_ble_eq_true rfl) ⟨by decide, by decide⟩ ⟨Nat.zero_le _, Nat.zero_le _⟩ hf (fun r110 σ111 _ hf H locs hw => ?_)
      refine r_iast (132 : Int) rfl X hw sh_114 dX12_begin_76 hf (fun hf H locs hw => ?_)
      refine r_mem hf hw (fun σ112 hw hf => ?_)
      refine lv_aload_n hx hb dX12_begin_77 rfl (lv_at hl 0 rfl) ?_
      refine r_getr 115 X hw sh_86 fd_12_48 rfl rfl lf_X12_159 dX12_begin_78 ?_
      refine lv_iload_n hx hb dX12_begin_81 rfl (lv_at hl 1 rfl) ?_
      refine lv_iconst (v := mI 0) hx hb dX12_begin_82 rfl ?_
      refine r_iast (132 : Int) rfl X hw sh_115 dX12_begin_83 hf (fun hf H locs hw => ?_)
      refine r_mem hf hw (fun σ113 hw hf => ?_)
      refine lv_aload_n hx hb dX12_begin_84 rfl (lv_at hl 0 rfl) ?_
      refine r_getr 116 X hw sh_86 fd_12_49 rfl rfl lf_X12_162 dX12_begin_85 ?_
      refine lv_iload_n hx hb dX12_begin_88 rfl (lv_at hl 1 rfl) ?_
      refine lv_iconst (v := mI 0) hx hb dX12_begin_89 rfl ?_
      refine r_iast (132 : Int) rfl X hw sh_116 dX12_begin_90 hf (fun hf H locs hw => ?_)
      refine r_mem hf hw (fun σ114 hw hf => ?_)
      refine lv_iinc (v := mI (x1 + 1)) (lv' := [(1, .int (mI (x1 + 1))), (0, .ref (ad 86))]) hx hb dX12_begin_91 hl (k := 1) rfl (mI_add _ _) (by decide) rfl (fun ls hl => ?_)
      refine lv_goto (tgt := 20) hx hb dX12_begin_94 (by decide) ?_
      exact hk20 (x1 + 1) σ114 _ _ _ hw (lv_sub hl [1, 0] rfl) hf
def g_X12_begin (F : Nat) (σ : mMem) : mRs := if 0 ≤ mw 0 ∧ mw 0 < (22 : Int) then mlm (mup σ 110 (mw 0).toNat 0) (fun σ1 => mob (g_X12_toldOf F 1 σ1) (fun r2 σ3 => if 0 ≤ mw 0 ∧ mw 0 < (22 : Int) then mlm (mup σ3 111 (mw 0).toNat r2) (fun σ4 => g_X12_begin_h20 F F 0 σ4) else none)) else none
set_option maxRecDepth 100000 in
set_option maxHeartbeats 4000000 in
theorem c_X12_begin (l : Launch) (D : va_G) (cy : Nat → ClassId) (ad : Nat → Nat) (bs : Nat) (F : Nat)   (σ : mMem) (r : Int) (σ' : mMem)  (hf : g_X12_begin F  σ = some (r, σ')) : mCv l D cy ad bs yX12_begin cX12_begin 2 none 2 [.ref (ad 86)] σ σ' := by
  refine mCv.of (lv := [(0, .ref (ad 86))]) km_X12_begin.2.2.2.2.2 (Nat.le_of_ble_eq_true rfl) rfl (fun p e s m args below meth c H locs ls X hw hl => ?_)
  obtain ⟨⟨hx, hb, -, -, -⟩, -⟩ := id X
  unfold g_X12_begin at hf
  refine lv_aload_n hx hb dX12_begin_0 rfl (lv_at hl 0 rfl) ?_
  refine r_getr 110 X hw sh_86 fd_12_43 rfl rfl lf_X12_144 dX12_begin_1 ?_
  refine lv_iconst (v := mI 0) hx hb dX12_begin_4 rfl ?_
  refine lv_iconst (v := mI 0) hx hb dX12_begin_5 rfl ?_
  refine r_iast (22 : Int) rfl X hw sh_110 dX12_begin_6 hf (fun hf H locs hw => ?_)
  refine r_mem hf hw (fun σ1 hw hf => ?_)
  refine lv_aload_n hx hb dX12_begin_7 rfl (lv_at hl 0 rfl) ?_
  refine r_getr 111 X hw sh_86 fd_12_44 rfl rfl lf_X12_147 dX12_begin_8 ?_
  refine lv_iconst (v := mI 0) hx hb dX12_begin_11 rfl ?_
  refine lv_aload_n hx hb dX12_begin_12 rfl (lv_at hl 0 rfl) ?_
  refine lv_iconst (v := mI 1) hx hb dX12_begin_13 rfl ?_
  refine r_cvi (rest := [.int (mI 0), .ref (ad 111)]) [.int (mI 1)] X hw (fun ra σa h => c_X12_toldOf l D cy ad bs F 1 σ1 ra σa  h) sh_86 rfl (by decide) rfl km_X12_toldOf kv_X12_toldOf lm_X12_415 dX12_begin_14 hl.1 rfl rfl (Nat.le_of_ble_eq_true rfl) ⟨by decide, by decide⟩ ⟨Nat.zero_le _, Nat.zero_le _⟩ hf (fun r2 σ3 _ hf H locs hw => ?_)
  refine r_iast (22 : Int) rfl X hw sh_111 dX12_begin_17 hf (fun hf H locs hw => ?_)
  refine r_mem hf hw (fun σ4 hw hf => ?_)
  refine lv_iconst (v := mI 0) hx hb dX12_begin_18 rfl ?_
  refine lv_istore_n (lv' := [(1, .int (mI 0)), (0, .ref (ad 86))]) hx hb dX12_begin_19 rfl hl (by decide) rfl (fun ls hl => ?_)
  exact w_X12_begin_h20 X _ hw (lv_sub hl [1, 0] rfl) hf
