def g_X8_isWord_b21 (F : Nat)  (t0 : Int) (σ : mMem) : mRs := if mw t0 = 0 ∨ mw t0 = 1 then some (t0, σ) else none
set_option maxRecDepth 100000 in
set_option maxHeartbeats 4000000 in
theorem w_X8_isWord_b21 {p : Program} {l : Launch} {e : Env} {s : State} {m : MethodId} {args : Array Value} {below : List Frame} {meth : Method} {c : Code} {D : va_G} {cy : Nat → ClassId} {ad : Nat → Nat} {bs : Nat} {F : Nat}  (X : mCx p m c cX8_isWord 2 s args RX8 meth D cy (some .boolean))  {r : Int} {σ' : mMem}   {t0 : Int} {σ : mMem} {H : Heap} {locs : List Loc} {ls : Array Slot} (hw : mWd D cy ad bs true mN σ s.heap H locs) (hl : lv_has ls 2 [(0, .ref (ad 14))]) (hf : g_X8_isWord_b21 F t0 σ = some (r, σ')) : mGi p l e 1 s m args below meth c D cy ad bs r σ' H locs (F0 m 21 ls [.int (mI t0)]) := by
  obtain ⟨⟨hx, hb, -, -, -⟩, -⟩ := id X
  unfold g_X8_isWord_b21 at hf
  exact r_zret X hw dX8_isWord_21 hf
def g_X8_isWord_b20 (F : Nat)  (σ : mMem) : mRs := g_X8_isWord_b21 F 0 σ
set_option maxRecDepth 100000 in
set_option maxHeartbeats 4000000 in
theorem w_X8_isWord_b20 {p : Program} {l : Launch} {e : Env} {s : State} {m : MethodId} {args : Array Value} {below : List Frame} {meth : Method} {c : Code} {D : va_G} {cy : Nat → ClassId} {ad : Nat → Nat} {bs : Nat} {F : Nat}  (X : mCx p m c cX8_isWord 2 s args RX8 meth D cy (some .boolean))  {r : Int} {σ' : mMem}    {σ : mMem} {H : Heap} {locs : List Loc} {ls : Array Slot} (hw : mWd D cy ad bs true mN σ s.heap H locs) (hl : lv_has ls 2 [(0, .ref (ad 14))]) (hf : g_X8_isWord_b20 F  σ = some (r, σ')) : mGi p l e 1 s m args below meth c D cy ad bs r σ' H locs (F0 m 20 ls []) := by
  obtain ⟨⟨hx, hb, -, -, -⟩, -⟩ := id X
  unfold g_X8_isWord_b20 at hf
  refine lv_iconst (v := mI 0) hx hb dX8_isWord_20 rfl ?_
  exact w_X8_isWord_b21 X hw (lv_sub hl [0] rfl) hf
def g_X8_isWord (F : Nat) (x1 : Int) (σ : mMem) : mRs := if ¬ mw (σ 14 7) = mw 2 then (g_X8_isWord_b20 F σ) else (if ¬ mw (σ 14 9) = mw x1 then (g_X8_isWord_b20 F σ) else (g_X8_isWord_b21 F 1 σ))
set_option maxRecDepth 100000 in
set_option maxHeartbeats 4000000 in
theorem c_X8_isWord (l : Launch) (D : va_G) (cy : Nat → ClassId) (ad : Nat → Nat) (bs : Nat) (F : Nat)  (x1 : Int) (σ : mMem) (r : Int) (σ' : mMem)  (hf : g_X8_isWord F x1 σ = some (r, σ')) : mCi l D cy ad bs yX8_isWord cX8_isWord 2 (some .boolean) 1 [.ref (ad 14), .int (mI x1)] σ r σ' := by
  refine mCi.of (lv := [(0, .ref (ad 14)), (1, .int (mI x1))]) km_X8_isWord.2.2.2.2.2 (Nat.le_of_ble_eq_true rfl) rfl (fun p e s m args below meth c H locs ls X hw hl => ?_)
  obtain ⟨⟨hx, hb, -, -, -⟩, -⟩ := id X
  unfold g_X8_isWord at hf
  refine lv_aload_n hx hb dX8_isWord_0 rfl (lv_at hl 0 rfl) ?_
  refine r_geti X hw sh_14 fd_8_7 rfl lf_X8_104 dX8_isWord_1 ?_
  refine lv_iconst (v := mI 2) hx hb dX8_isWord_4 rfl ?_
  refine r_icmp_ne (tgt := 20) X dX8_isWord_5 (by decide) hf (fun hc hf => ?_) (fun hc hf => ?_)
  · exact w_X8_isWord_b20 X hw (lv_sub hl [0] rfl) hf
  · refine lv_aload_n hx hb dX8_isWord_8 rfl (lv_at hl 0 rfl) ?_
    refine r_geti X hw sh_14 fd_8_9 rfl lf_X8_107 dX8_isWord_9 ?_
    refine lv_iload_n hx hb dX8_isWord_12 rfl (lv_at hl 1 rfl) ?_
    refine r_icmp_ne (tgt := 20) X dX8_isWord_13 (by decide) hf (fun hc hf => ?_) (fun hc hf => ?_)
    · exact w_X8_isWord_b20 X hw (lv_sub hl [0] rfl) hf
    · refine lv_iconst (v := mI 1) hx hb dX8_isWord_16 rfl ?_
      refine lv_goto (tgt := 21) hx hb dX8_isWord_17 (by decide) ?_
      exact w_X8_isWord_b21 X hw (lv_sub hl [0] rfl) hf
def g_X8_refuseHere_b20 (F : Nat)  (σ : mMem) : mRs := mlm (mup σ 14 7 0) (fun σ103 => mlm (mup σ103 14 9 0) (fun σ104 => some (0, σ104)))
set_option maxRecDepth 100000 in
set_option maxHeartbeats 4000000 in
theorem w_X8_refuseHere_b20 {p : Program} {l : Launch} {e : Env} {s : State} {m : MethodId} {args : Array Value} {below : List Frame} {meth : Method} {c : Code} {D : va_G} {cy : Nat → ClassId} {ad : Nat → Nat} {bs : Nat} {F : Nat}  (X : mCx p m c cX8_refuseHere 2 s args RX8 meth D cy none)  {r : Int} {σ' : mMem}    {σ : mMem} {H : Heap} {locs : List Loc} {ls : Array Slot} (hw : mWd D cy ad bs true mN σ s.heap H locs) (hl : lv_has ls 2 [(0, .ref (ad 14))]) (hf : g_X8_refuseHere_b20 F  σ = some (r, σ')) : mGv p l e 1 s m args below meth c D cy ad bs σ' H locs (F0 m 20 ls []) := by
  obtain ⟨⟨hx, hb, -, -, -⟩, -⟩ := id X
  unfold g_X8_refuseHere_b20 at hf
  refine lv_aload_n hx hb dX8_refuseHere_20 rfl (lv_at hl 0 rfl) ?_
  refine lv_iconst (v := mI 0) hx hb dX8_refuseHere_21 rfl ?_
  refine r_puti X hw sh_14 fd_8_7 fp_8_7 rfl rfl lf_X8_104 dX8_refuseHere_22 (fun H locs hw => ?_)
  refine r_mem hf hw (fun σ103 hw hf => ?_)
  refine lv_aload_n hx hb dX8_refuseHere_25 rfl (lv_at hl 0 rfl) ?_
  refine lv_iconst (v := mI 0) hx hb dX8_refuseHere_26 rfl ?_
  refine r_puti X hw sh_14 fd_8_9 fp_8_9 rfl rfl lf_X8_107 dX8_refuseHere_27 (fun H locs hw => ?_)
  refine r_mem hf hw (fun σ104 hw hf => ?_)
  exact r_vret X hw dX8_refuseHere_30 hf
def g_X8_refuseHere (F : Nat) (x1 : Int) (σ : mMem) : mRs := if ¬ mw (σ 14 10) = 0 then (g_X8_refuseHere_b20 F σ) else (mlm (mup σ 14 10 x1) (fun σ1 => mlm (mup σ1 14 11 (σ1 14 8)) (fun σ2 => g_X8_refuseHere_b20 F σ2)))
set_option maxRecDepth 100000 in
set_option maxHeartbeats 4000000 in
theorem c_X8_refuseHere (l : Launch) (D : va_G) (cy : Nat → ClassId) (ad : Nat → Nat) (bs : Nat) (F : Nat)  (x1 : Int) (σ : mMem) (r : Int) (σ' : mMem)  (hf : g_X8_refuseHere F x1 σ = some (r, σ')) : mCv l D cy ad bs yX8_refuseHere cX8_refuseHere 2 none 1 [.ref (ad 14), .int (mI x1)] σ σ' := by
  refine mCv.of (lv := [(0, .ref (ad 14)), (1, .int (mI x1))]) km_X8_refuseHere.2.2.2.2.2 (Nat.le_of_ble_eq_true rfl) rfl (fun p e s m args below meth c H locs ls X hw hl => ?_)
  obtain ⟨⟨hx, hb, -, -, -⟩, -⟩ := id X
  unfold g_X8_refuseHere at hf
  refine lv_aload_n hx hb dX8_refuseHere_0 rfl (lv_at hl 0 rfl) ?_
  refine r_geti X hw sh_14 fd_8_10 rfl lf_X8_62 dX8_refuseHere_1 ?_
  refine r_if_ne (tgt := 20) X dX8_refuseHere_4 (by decide) hf (fun hc hf => ?_) (fun hc hf => ?_)
  · exact w_X8_refuseHere_b20 X hw (lv_sub hl [0] rfl) hf
  · refine lv_aload_n hx hb dX8_refuseHere_7 rfl (lv_at hl 0 rfl) ?_
    refine lv_iload_n hx hb dX8_refuseHere_8 rfl (lv_at hl 1 rfl) ?_
    refine r_puti X hw sh_14 fd_8_10 fp_8_10 rfl rfl lf_X8_62 dX8_refuseHere_9 (fun H locs hw => ?_)
    refine r_mem hf hw (fun σ1 hw hf => ?_)
    refine lv_aload_n hx hb dX8_refuseHere_12 rfl (lv_at hl 0 rfl) ?_
    refine lv_aload_n hx hb dX8_refuseHere_13 rfl (lv_at hl 0 rfl) ?_
    refine r_geti X hw sh_14 fd_8_8 rfl lf_X8_101 dX8_refuseHere_14 ?_
    refine r_puti X hw sh_14 fd_8_11 fp_8_11 rfl rfl lf_X8_65 dX8_refuseHere_17 (fun H locs hw => ?_)
    refine r_mem hf hw (fun σ2 hw hf => ?_)
    exact w_X8_refuseHere_b20 X hw (lv_sub hl [0] rfl) hf
def g_X8_next_b48 (F : Nat)  (σ : mMem) : mRs := mlm (mup σ 14 7 0) (fun σ108 => mlm (mup σ108 14 8 (σ108 1 1)) (fun σ109 => mlm (mup σ109 14 9 0) (fun σ110 => some (0, σ110))))
set_option maxRecDepth 100000 in
set_option maxHeartbeats 4000000 in
theorem w_X8_next_b48 {p : Program} {l : Launch} {e : Env} {s : State} {m : MethodId} {args : Array Value} {below : List Frame} {meth : Method} {c : Code} {D : va_G} {cy : Nat → ClassId} {ad : Nat → Nat} {bs : Nat} {F : Nat}  (X : mCx p m c cX8_next 1 s args RX8 meth D cy none)  {r : Int} {σ' : mMem}    {σ : mMem} {H : Heap} {locs : List Loc} {ls : Array Slot} (hw : mWd D cy ad bs true mN σ s.heap H locs) (hl : lv_has ls 1 [(0, .ref (ad 14))]) (hf : g_X8_next_b48 F  σ = some (r, σ')) : mGv p l e 2 s m args below meth c D cy ad bs σ' H locs (F0 m 48 ls []) := by
  obtain ⟨⟨hx, hb, -, -, -⟩, -⟩ := id X
  unfold g_X8_next_b48 at hf
  refine lv_aload_n hx hb dX8_next_48 rfl (lv_at hl 0 rfl) ?_
  refine lv_iconst (v := mI 0) hx hb dX8_next_49 rfl ?_
  refine r_puti X hw sh_14 fd_8_7 fp_8_7 rfl rfl lf_X8_104 dX8_next_50 (fun H locs hw => ?_)
  refine r_mem hf hw (fun σ108 hw hf => ?_)
  refine lv_aload_n hx hb dX8_next_53 rfl (lv_at hl 0 rfl) ?_
  refine lv_aload_n hx hb dX8_next_54 rfl (lv_at hl 0 rfl) ?_
  refine r_getr 1 X hw sh_14 fd_8_0 rfl rfl lf_X8_26 dX8_next_55 ?_
  refine r_geti X hw sh_1 fd_7_1 rfl lf_X8_52 dX8_next_58 ?_
  refine r_puti X hw sh_14 fd_8_8 fp_8_8 rfl rfl lf_X8_101 dX8_next_61 (fun H locs hw => ?_)
  refine r_mem hf hw (fun σ109 hw hf => ?_)
  refine lv_aload_n hx hb dX8_next_64 rfl (lv_at hl 0 rfl) ?_
  refine lv_iconst (v := mI 0) hx hb dX8_next_65 rfl ?_
  refine r_puti X hw sh_14 fd_8_9 fp_8_9 rfl rfl lf_X8_107 dX8_next_66 (fun H locs hw => ?_)
  refine r_mem hf hw (fun σ110 hw hf => ?_)
  exact r_vret X hw dX8_next_69 hf
def g_X8_next_b130 (F : Nat)  (σ : mMem) : mRs := some (0, σ)
set_option maxRecDepth 100000 in
set_option maxHeartbeats 4000000 in
theorem w_X8_next_b130 {p : Program} {l : Launch} {e : Env} {s : State} {m : MethodId} {args : Array Value} {below : List Frame} {meth : Method} {c : Code} {D : va_G} {cy : Nat → ClassId} {ad : Nat → Nat} {bs : Nat} {F : Nat}  (X : mCx p m c cX8_next 1 s args RX8 meth D cy none)  {r : Int} {σ' : mMem}    {σ : mMem} {H : Heap} {locs : List Loc} {ls : Array Slot} (hw : mWd D cy ad bs true mN σ s.heap H locs) (hl : lv_has ls 1 [(0, .ref (ad 14))]) (hf : g_X8_next_b130 F  σ = some (r, σ')) : mGv p l e 2 s m args below meth c D cy ad bs σ' H locs (F0 m 130 ls []) := by
  obtain ⟨⟨hx, hb, -, -, -⟩, -⟩ := id X
  unfold g_X8_next_b130 at hf
  exact r_vret X hw dX8_next_130 hf
def g_X8_next (F : Nat) (σ : mMem) : mRs := if mw (σ 14 10) = 0 then (mlm (mup σ 14 6 ((σ 14 6) + 1)) (fun σ1 => if mw (σ1 14 6) < 0 then (g_X8_next_b48 F σ1) else (if mw (σ1 14 5) ≤ mw (σ1 14 6) then (g_X8_next_b48 F σ1) else (if mw (σ1 14 6) < mw 1600 then (if 0 ≤ mw (σ1 14 6) ∧ mw (σ1 14 6) < (1600 : Int) then mlm (mup σ1 14 7 (σ1 16 (mw (σ1 14 6)).toNat)) (fun σ2 => if 0 ≤ mw (σ2 14 6) ∧ mw (σ2 14 6) < (1600 : Int) then mlm (mup σ2 14 8 (σ2 17 (mw (σ2 14 6)).toNat)) (fun σ3 => if 0 ≤ mw (σ3 14 6) ∧ mw (σ3 14 6) < (1600 : Int) then mlm (mup σ3 14 9 (σ3 18 (mw (σ3 14 6)).toNat)) (fun σ4 => if ¬ mw (σ4 14 7) = mw 5 then (g_X8_next_b130 F σ4) else (mlm (mup σ4 14 8 (σ4 14 9)) (fun σ5 => mob (g_X8_refuseHere F 1 σ5) (fun r6 σ7 => g_X8_next_b130 F σ7)))) else none) else none) else none) else (g_X8_next_b48 F σ1))))) else (some (0, σ))
set_option maxRecDepth 100000 in
set_option maxHeartbeats 4000000 in
theorem c_X8_next (l : Launch) (D : va_G) (cy : Nat → ClassId) (ad : Nat → Nat) (bs : Nat) (F : Nat)   (σ : mMem) (r : Int) (σ' : mMem)  (hf : g_X8_next F  σ = some (r, σ')) : mCv l D cy ad bs yX8_next cX8_next 1 none 2 [.ref (ad 14)] σ σ' := by
  refine mCv.of (lv := [(0, .ref (ad 14))]) km_X8_next.2.2.2.2.2 (Nat.le_of_ble_eq_true rfl) rfl (fun p e s m args below meth c H locs ls X hw hl => ?_)
  obtain ⟨⟨hx, hb, -, -, -⟩, -⟩ := id X
  unfold g_X8_next at hf
  refine lv_aload_n hx hb dX8_next_0 rfl (lv_at hl 0 rfl) ?_
  refine r_geti X hw sh_14 fd_8_10 rfl lf_X8_62 dX8_next_1 ?_
  refine r_if_eq (tgt := 8) X dX8_next_4 (by decide) hf (fun hc hf => ?_) (fun hc hf => ?_)
  · refine lv_aload_n hx hb dX8_next_8 rfl (lv_at hl 0 rfl) ?_
    refine lv_dup hx hb dX8_next_9 rfl ?_
    refine r_geti X hw sh_14 fd_8_6 rfl lf_X8_68 dX8_next_10 ?_
    refine lv_iconst (v := mI 1) hx hb dX8_next_13 rfl ?_
    refine r_iadd X dX8_next_14 ?_
    refine r_puti X hw sh_14 fd_8_6 fp_8_6 rfl rfl lf_X8_68 dX8_next_15 (fun H locs hw => ?_)
    refine r_mem hf hw (fun σ1 hw hf => ?_)
    refine lv_aload_n hx hb dX8_next_18 rfl (lv_at hl 0 rfl) ?_
    refine r_geti X hw sh_14 fd_8_6 rfl lf_X8_68 dX8_next_19 ?_
    refine r_if_lt (tgt := 48) X dX8_next_22 (by decide) hf (fun hc hf => ?_) (fun hc hf => ?_)
    · exact w_X8_next_b48 X hw (lv_sub hl [0] rfl) hf
    · refine lv_aload_n hx hb dX8_next_25 rfl (lv_at hl 0 rfl) ?_
      refine r_geti X hw sh_14 fd_8_6 rfl lf_X8_68 dX8_next_26 ?_
      refine lv_aload_n hx hb dX8_next_29 rfl (lv_at hl 0 rfl) ?_
      refine r_geti X hw sh_14 fd_8_5 rfl lf_X8_48 dX8_next_30 ?_
      refine r_icmp_ge (tgt := 48) X dX8_next_33 (by decide) hf (fun hc hf => ?_) (fun hc hf => ?_)
      · exact w_X8_next_b48 X hw (lv_sub hl [0] rfl) hf
      · refine lv_aload_n hx hb dX8_next_36 rfl (lv_at hl 0 rfl) ?_
        refine r_geti X hw sh_14 fd_8_6 rfl lf_X8_68 dX8_next_37 ?_
        refine lv_aload_n hx hb dX8_next_40 rfl (lv_at hl 0 rfl) ?_
        refine r_getr 16 X hw sh_14 fd_8_2 rfl rfl lf_X8_17 dX8_next_41 ?_
        refine r_ileni (1600 : Int) rfl X hw sh_16 dX8_next_44 ?_
        refine r_icmp_lt (tgt := 70) X dX8_next_45 (by decide) hf (fun hc hf => ?_) (fun hc hf => ?_)
        · refine lv_aload_n hx hb dX8_next_70 rfl (lv_at hl 0 rfl) ?_
          refine lv_aload_n hx hb dX8_next_71 rfl (lv_at hl 0 rfl) ?_
          refine r_getr 16 X hw sh_14 fd_8_2 rfl rfl lf_X8_17 dX8_next_72 ?_
          refine lv_aload_n hx hb dX8_next_75 rfl (lv_at hl 0 rfl) ?_
          refine r_geti X hw sh_14 fd_8_6 rfl lf_X8_68 dX8_next_76 ?_
          refine r_iald (1600 : Int) rfl X hw sh_16 dX8_next_79 hf (fun hf => ?_)
          refine r_puti X hw sh_14 fd_8_7 fp_8_7 rfl rfl lf_X8_104 dX8_next_80 (fun H locs hw => ?_)
          refine r_mem hf hw (fun σ2 hw hf => ?_)
          refine lv_aload_n hx hb dX8_next_83 rfl (lv_at hl 0 rfl) ?_
          refine lv_aload_n hx hb dX8_next_84 rfl (lv_at hl 0 rfl) ?_
          refine r_getr 17 X hw sh_14 fd_8_3 rfl rfl lf_X8_20 dX8_next_85 ?_
          refine lv_aload_n hx hb dX8_next_88 rfl (lv_at hl 0 rfl) ?_
          refine r_geti X hw sh_14 fd_8_6 rfl lf_X8_68 dX8_next_89 ?_
          refine r_iald (1600 : Int) rfl X hw sh_17 dX8_next_92 hf (fun hf => ?_)
          refine r_puti X hw sh_14 fd_8_8 fp_8_8 rfl rfl lf_X8_101 dX8_next_93 (fun H locs hw => ?_)
          refine r_mem hf hw (fun σ3 hw hf => ?_)
          refine lv_aload_n hx hb dX8_next_96 rfl (lv_at hl 0 rfl) ?_
          refine lv_aload_n hx hb dX8_next_97 rfl (lv_at hl 0 rfl) ?_
          refine r_getr 18 X hw sh_14 fd_8_4 rfl rfl lf_X8_23 dX8_next_98 ?_
          refine lv_aload_n hx hb dX8_next_101 rfl (lv_at hl 0 rfl) ?_
          refine r_geti X hw sh_14 fd_8_6 rfl lf_X8_68 dX8_next_102 ?_
          refine r_iald (1600 : Int) rfl X hw sh_18 dX8_next_105 hf (fun hf => ?_)
          refine r_puti X hw sh_14 fd_8_9 fp_8_9 rfl rfl lf_X8_107 dX8_next_106 (fun H locs hw => ?_)
          refine r_mem hf hw (fun σ4 hw hf => ?_)
          refine lv_aload_n hx hb dX8_next_109 rfl (lv_at hl 0 rfl) ?_
          refine r_geti X hw sh_14 fd_8_7 rfl lf_X8_104 dX8_next_110 ?_
          refine lv_iconst (v := mI 5) hx hb dX8_next_113 rfl ?_
          refine r_icmp_ne (tgt := 130) X dX8_next_114 (by decide) hf (fun hc hf => ?_) (fun hc hf => ?_)
          · exact w_X8_next_b130 X hw (lv_sub hl [0] rfl) hf
          · refine lv_aload_n hx hb dX8_next_117 rfl (lv_at hl 0 rfl) ?_
            refine lv_aload_n hx hb dX8_next_118 rfl (lv_at hl 0 rfl) ?_
            refine r_geti X hw sh_14 fd_8_9 rfl lf_X8_107 dX8_next_119 ?_
            refine r_puti X hw sh_14 fd_8_8 fp_8_8 rfl rfl lf_X8_101 dX8_next_122 (fun H locs hw => ?_)
            refine r_mem hf hw (fun σ5 hw hf => ?_)
            refine lv_aload_n hx hb dX8_next_125 rfl (lv_at hl 0 rfl) ?_
            refine lv_iconst (v := mI 1) hx hb dX8_next_126 rfl ?_
            refine r_cvv (rest := []) [.int (mI 1)] X hw (fun ra σa h => c_X8_refuseHere l D cy ad bs F 1 σ5 ra σa  h) sh_14 rfl (by decide) rfl km_X8_refuseHere kv_X8_refuseHere lm_X8_110 dX8_next_127 hl.1 rfl rfl (Nat.le_of_ble_eq_true rfl) ⟨by decide, by decide⟩ ⟨Nat.zero_le _, Nat.zero_le _⟩ hf (fun r6 σ7 _ hf H locs hw => ?_)
            exact w_X8_next_b130 X hw (lv_sub hl [0] rfl) hf
        · exact w_X8_next_b48 X hw (lv_sub hl [0] rfl) hf
  · exact r_vret X hw dX8_next_7 hf
def g_X1_passOpening (F : Nat) (x1 : Int) (σ : mMem) : mRs := if mw x1 < mw 7 then (mob (g_X8_next F σ) (fun r1 σ2 => if mw 1 = 0 ∨ mw 1 = 1 then some (1, σ2) else none)) else (mob (g_X8_refuseHere F 5 σ) (fun r3 σ4 => if mw 0 = 0 ∨ mw 0 = 1 then some (0, σ4) else none))
set_option maxRecDepth 100000 in
set_option maxHeartbeats 4000000 in
theorem c_X1_passOpening (l : Launch) (D : va_G) (cy : Nat → ClassId) (ad : Nat → Nat) (bs : Nat) (F : Nat)  (x1 : Int) (σ : mMem) (r : Int) (σ' : mMem)  (hf : g_X1_passOpening F x1 σ = some (r, σ')) : mCi l D cy ad bs yX1_passOpening cX1_passOpening 2 (some .boolean) 3 [.ref (ad 19), .int (mI x1)] σ r σ' := by
  refine mCi.of (lv := [(0, .ref (ad 19)), (1, .int (mI x1))]) km_X1_passOpening.2.2.2.2.2 (Nat.le_of_ble_eq_true rfl) rfl (fun p e s m args below meth c H locs ls X hw hl => ?_)
  obtain ⟨⟨hx, hb, -, -, -⟩, -⟩ := id X
  unfold g_X1_passOpening at hf
  refine lv_iload_n hx hb dX1_passOpening_0 rfl (lv_at hl 1 rfl) ?_
  refine lv_bipush (v := mI 7) hx hb dX1_passOpening_1 (by decide) ?_
  refine r_icmp_lt (tgt := 16) X dX1_passOpening_3 (by decide) hf (fun hc hf => ?_) (fun hc hf => ?_)
  · refine lv_aload_n hx hb dX1_passOpening_16 rfl (lv_at hl 0 rfl) ?_
    refine r_getr 14 X hw sh_19 fd_1_0 rfl rfl lf_X1_9 dX1_passOpening_17 ?_
    refine r_cvv (rest := []) [] X hw (fun ra σa h => c_X8_next l D cy ad bs F σ ra σa  h) sh_14 rfl (by decide) rfl km_X8_next kv_X8_next lm_X1_23 dX1_passOpening_20 hl.1 rfl rfl (Nat.le_of_ble_eq_true rfl) ⟨by decide, by decide⟩ ⟨Nat.zero_le _, Nat.zero_le _⟩ hf (fun r1 σ2 _ hf H locs hw => ?_)
    refine lv_iconst (v := mI 1) hx hb dX1_passOpening_23 rfl ?_
    exact r_zret X hw dX1_passOpening_24 hf
  · refine lv_aload_n hx hb dX1_passOpening_6 rfl (lv_at hl 0 rfl) ?_
    refine r_getr 14 X hw sh_19 fd_1_0 rfl rfl lf_X1_9 dX1_passOpening_7 ?_
    refine lv_iconst (v := mI 5) hx hb dX1_passOpening_10 rfl ?_
    refine r_cvv (rest := []) [.int (mI 5)] X hw (fun ra σa h => c_X8_refuseHere l D cy ad bs F 5 σ ra σa  h) sh_14 rfl (by decide) rfl km_X8_refuseHere kv_X8_refuseHere lm_X1_85 dX1_passOpening_11 hl.1 rfl rfl (Nat.le_of_ble_eq_true rfl) ⟨by decide, by decide⟩ ⟨Nat.zero_le _, Nat.zero_le _⟩ hf (fun r3 σ4 _ hf H locs hw => ?_)
    refine lv_iconst (v := mI 0) hx hb dX1_passOpening_14 rfl ?_
    exact r_zret X hw dX1_passOpening_15 hf
def g_X8_isMark_b21 (F : Nat)  (t0 : Int) (σ : mMem) : mRs := if mw t0 = 0 ∨ mw t0 = 1 then some (t0, σ) else none
set_option maxRecDepth 100000 in
set_option maxHeartbeats 4000000 in
theorem w_X8_isMark_b21 {p : Program} {l : Launch} {e : Env} {s : State} {m : MethodId} {args : Array Value} {below : List Frame} {meth : Method} {c : Code} {D : va_G} {cy : Nat → ClassId} {ad : Nat → Nat} {bs : Nat} {F : Nat}  (X : mCx p m c cX8_isMark 2 s args RX8 meth D cy (some .boolean))  {r : Int} {σ' : mMem}   {t0 : Int} {σ : mMem} {H : Heap} {locs : List Loc} {ls : Array Slot} (hw : mWd D cy ad bs true mN σ s.heap H locs) (hl : lv_has ls 2 [(0, .ref (ad 14))]) (hf : g_X8_isMark_b21 F t0 σ = some (r, σ')) : mGi p l e 1 s m args below meth c D cy ad bs r σ' H locs (F0 m 21 ls [.int (mI t0)]) := by
  obtain ⟨⟨hx, hb, -, -, -⟩, -⟩ := id X
  unfold g_X8_isMark_b21 at hf
  exact r_zret X hw dX8_isMark_21 hf
def g_X8_isMark_b20 (F : Nat)  (σ : mMem) : mRs := g_X8_isMark_b21 F 0 σ
set_option maxRecDepth 100000 in
set_option maxHeartbeats 4000000 in
theorem w_X8_isMark_b20 {p : Program} {l : Launch} {e : Env} {s : State} {m : MethodId} {args : Array Value} {below : List Frame} {meth : Method} {c : Code} {D : va_G} {cy : Nat → ClassId} {ad : Nat → Nat} {bs : Nat} {F : Nat}  (X : mCx p m c cX8_isMark 2 s args RX8 meth D cy (some .boolean))  {r : Int} {σ' : mMem}    {σ : mMem} {H : Heap} {locs : List Loc} {ls : Array Slot} (hw : mWd D cy ad bs true mN σ s.heap H locs) (hl : lv_has ls 2 [(0, .ref (ad 14))]) (hf : g_X8_isMark_b20 F  σ = some (r, σ')) : mGi p l e 1 s m args below meth c D cy ad bs r σ' H locs (F0 m 20 ls []) := by
  obtain ⟨⟨hx, hb, -, -, -⟩, -⟩ := id X
  unfold g_X8_isMark_b20 at hf
  refine lv_iconst (v := mI 0) hx hb dX8_isMark_20 rfl ?_
  exact w_X8_isMark_b21 X hw (lv_sub hl [0] rfl) hf
def g_X8_isMark (F : Nat) (x1 : Int) (σ : mMem) : mRs := if ¬ mw (σ 14 7) = mw 4 then (g_X8_isMark_b20 F σ) else (if ¬ mw (σ 14 9) = mw x1 then (g_X8_isMark_b20 F σ) else (g_X8_isMark_b21 F 1 σ))
set_option maxRecDepth 100000 in
set_option maxHeartbeats 4000000 in
theorem c_X8_isMark (l : Launch) (D : va_G) (cy : Nat → ClassId) (ad : Nat → Nat) (bs : Nat) (F : Nat)  (x1 : Int) (σ : mMem) (r : Int) (σ' : mMem)  (hf : g_X8_isMark F x1 σ = some (r, σ')) : mCi l D cy ad bs yX8_isMark cX8_isMark 2 (some .boolean) 1 [.ref (ad 14), .int (mI x1)] σ r σ' := by
  refine mCi.of (lv := [(0, .ref (ad 14)), (1, .int (mI x1))]) km_X8_isMark.2.2.2.2.2 (Nat.le_of_ble_eq_true rfl) rfl (fun p e s m args below meth c H locs ls X hw hl => ?_)
  obtain ⟨⟨hx, hb, -, -, -⟩, -⟩ := id X
  unfold g_X8_isMark at hf
  refine lv_aload_n hx hb dX8_isMark_0 rfl (lv_at hl 0 rfl) ?_
  refine r_geti X hw sh_14 fd_8_7 rfl lf_X8_104 dX8_isMark_1 ?_
  refine lv_iconst (v := mI 4) hx hb dX8_isMark_4 rfl ?_
  refine r_icmp_ne (tgt := 20) X dX8_isMark_5 (by decide) hf (fun hc hf => ?_) (fun hc hf => ?_)
  · exact w_X8_isMark_b20 X hw (lv_sub hl [0] rfl) hf
  · refine lv_aload_n hx hb dX8_isMark_8 rfl (lv_at hl 0 rfl) ?_
    refine r_geti X hw sh_14 fd_8_9 rfl lf_X8_107 dX8_isMark_9 ?_
    refine lv_iload_n hx hb dX8_isMark_12 rfl (lv_at hl 1 rfl) ?_
    refine r_icmp_ne (tgt := 20) X dX8_isMark_13 (by decide) hf (fun hc hf => ?_) (fun hc hf => ?_)
    · exact w_X8_isMark_b20 X hw (lv_sub hl [0] rfl) hf
    · refine lv_iconst (v := mI 1) hx hb dX8_isMark_16 rfl ?_
      refine lv_goto (tgt := 21) hx hb dX8_isMark_17 (by decide) ?_
      exact w_X8_isMark_b21 X hw (lv_sub hl [0] rfl) hf
def g_X8_takeMark_b13 (F : Nat)  (σ : mMem) : mRs := mob (g_X8_next F σ) (fun r105 σ106 => some (0, σ106))
set_option maxRecDepth 100000 in
set_option maxHeartbeats 4000000 in
theorem w_X8_takeMark_b13 {p : Program} {l : Launch} {e : Env} {s : State} {m : MethodId} {args : Array Value} {below : List Frame} {meth : Method} {c : Code} {D : va_G} {cy : Nat → ClassId} {ad : Nat → Nat} {bs : Nat} {F : Nat}  (X : mCx p m c cX8_takeMark 2 s args RX8 meth D cy none)  {r : Int} {σ' : mMem}    {σ : mMem} {H : Heap} {locs : List Loc} {ls : Array Slot} (hw : mWd D cy ad bs true mN σ s.heap H locs) (hl : lv_has ls 2 [(0, .ref (ad 14))]) (hf : g_X8_takeMark_b13 F  σ = some (r, σ')) : mGv p l e 3 s m args below meth c D cy ad bs σ' H locs (F0 m 13 ls []) := by
  obtain ⟨⟨hx, hb, -, -, -⟩, -⟩ := id X
  unfold g_X8_takeMark_b13 at hf
  refine lv_aload_n hx hb dX8_takeMark_13 rfl (lv_at hl 0 rfl) ?_
  refine r_cvv (rest := []) [] X hw (fun ra σa h => c_X8_next l D cy ad bs F σ ra σa  h) sh_14 rfl (by decide) rfl km_X8_next kv_X8_next lm_X8_71 dX8_takeMark_14 hl.1 rfl rfl (Nat.le_of_ble_eq_true rfl) ⟨by decide, by decide⟩ ⟨Nat.zero_le _, Nat.zero_le _⟩ hf (fun r105 σ106 _ hf H locs hw => ?_)
  exact r_vret X hw dX8_takeMark_17 hf
def g_X8_takeMark (F : Nat) (x1 : Int) (σ : mMem) : mRs := mob (g_X8_isMark F x1 σ) (fun r1 σ2 => if ¬ mw r1 = 0 then (g_X8_takeMark_b13 F σ2) else (mob (g_X8_refuseHere F 1 σ2) (fun r3 σ4 => g_X8_takeMark_b13 F σ4)))
set_option maxRecDepth 100000 in
set_option maxHeartbeats 4000000 in
theorem c_X8_takeMark (l : Launch) (D : va_G) (cy : Nat → ClassId) (ad : Nat → Nat) (bs : Nat) (F : Nat)  (x1 : Int) (σ : mMem) (r : Int) (σ' : mMem)  (hf : g_X8_takeMark F x1 σ = some (r, σ')) : mCv l D cy ad bs yX8_takeMark cX8_takeMark 2 none 3 [.ref (ad 14), .int (mI x1)] σ σ' := by
  refine mCv.of (lv := [(0, .ref (ad 14)), (1, .int (mI x1))]) km_X8_takeMark.2.2.2.2.2 (Nat.le_of_ble_eq_true rfl) rfl (fun p e s m args below meth c H locs ls X hw hl => ?_)
  obtain ⟨⟨hx, hb, -, -, -⟩, -⟩ := id X
  unfold g_X8_takeMark at hf
  refine lv_aload_n hx hb dX8_takeMark_0 rfl (lv_at hl 0 rfl) ?_
  refine lv_iload_n hx hb dX8_takeMark_1 rfl (lv_at hl 1 rfl) ?_
  refine r_cvi (rest := []) [.int (mI x1)] X hw (fun ra σa h => c_X8_isMark l D cy ad bs F x1 σ ra σa  h) sh_14 rfl (by decide) rfl km_X8_isMark kv_X8_isMark lm_X8_113 dX8_takeMark_2 hl.1 rfl rfl (Nat.le_of_ble_eq_true rfl) ⟨by decide, by decide⟩ ⟨Nat.zero_le _, Nat.zero_le _⟩ hf (fun r1 σ2 _ hf H locs hw => ?_)
  refine r_if_ne (tgt := 13) X dX8_takeMark_5 (by decide) hf (fun hc hf => ?_) (fun hc hf => ?_)
  · exact w_X8_takeMark_b13 X hw (lv_sub hl [0] rfl) hf
  · refine lv_aload_n hx hb dX8_takeMark_8 rfl (lv_at hl 0 rfl) ?_
    refine lv_iconst (v := mI 1) hx hb dX8_takeMark_9 rfl ?_
    refine r_cvv (rest := []) [.int (mI 1)] X hw (fun ra σa h => c_X8_refuseHere l D cy ad bs F 1 σ2 ra σa  h) sh_14 rfl (by decide) rfl km_X8_refuseHere kv_X8_refuseHere lm_X8_110 dX8_takeMark_10 hl.1 rfl rfl (Nat.le_of_ble_eq_true rfl) ⟨by decide, by decide⟩ ⟨Nat.zero_le _, Nat.zero_le _⟩ hf (fun r3 σ4 _ hf H locs hw => ?_)
    exact w_X8_takeMark_b13 X hw (lv_sub hl [0] rfl) hf
def g_X1_productSign_b47 (F : Nat)  (t0 : Int) (σ : mMem) : mRs := some (t0, σ)
set_option maxRecDepth 100000 in
set_option maxHeartbeats 4000000 in
theorem w_X1_productSign_b47 {p : Program} {l : Launch} {e : Env} {s : State} {m : MethodId} {args : Array Value} {below : List Frame} {meth : Method} {c : Code} {D : va_G} {cy : Nat → ClassId} {ad : Nat → Nat} {bs : Nat} {F : Nat}  (X : mCx p m c cX1_productSign 1 s args RX1 meth D cy (some .int))  {r : Int} {σ' : mMem}   {t0 : Int} {σ : mMem} {H : Heap} {locs : List Loc} {ls : Array Slot} (hw : mWd D cy ad bs true mN σ s.heap H locs) (hl : lv_has ls 1 [(0, .ref (ad 19))]) (hf : g_X1_productSign_b47 F t0 σ = some (r, σ')) : mGi p l e 2 s m args below meth c D cy ad bs r σ' H locs (F0 m 47 ls [.int (mI t0)]) := by
  obtain ⟨⟨hx, hb, -, -, -⟩, -⟩ := id X
  unfold g_X1_productSign_b47 at hf
  exact r_iret X hw dX1_productSign_47 hf
def g_X1_productSign (F : Nat) (σ : mMem) : mRs := mob (g_X8_isMark F 42 σ) (fun r1 σ2 => if mw r1 = 0 then (mob (g_X8_isMark F 47 σ2) (fun r3 σ4 => if mw r3 = 0 then (mob (g_X8_isMark F 37 σ4) (fun r5 σ6 => if mw r5 = 0 then (g_X1_productSign_b47 F (-1) σ6) else (g_X1_productSign_b47 F 7 σ6))) else (some (6, σ4)))) else (some (5, σ2)))
set_option maxRecDepth 100000 in
set_option maxHeartbeats 4000000 in
theorem c_X1_productSign (l : Launch) (D : va_G) (cy : Nat → ClassId) (ad : Nat → Nat) (bs : Nat) (F : Nat)   (σ : mMem) (r : Int) (σ' : mMem)  (hf : g_X1_productSign F  σ = some (r, σ')) : mCi l D cy ad bs yX1_productSign cX1_productSign 1 (some .int) 2 [.ref (ad 19)] σ r σ' := by
  refine mCi.of (lv := [(0, .ref (ad 19))]) km_X1_productSign.2.2.2.2.2 (Nat.le_of_ble_eq_true rfl) rfl (fun p e s m args below meth c H locs ls X hw hl => ?_)
  obtain ⟨⟨hx, hb, -, -, -⟩, -⟩ := id X
  unfold g_X1_productSign at hf
  refine lv_aload_n hx hb dX1_productSign_0 rfl (lv_at hl 0 rfl) ?_
  refine r_getr 14 X hw sh_19 fd_1_0 rfl rfl lf_X1_9 dX1_productSign_1 ?_
  refine lv_bipush (v := mI 42) hx hb dX1_productSign_4 (by decide) ?_
  refine r_cvi (rest := []) [.int (mI 42)] X hw (fun ra σa h => c_X8_isMark l D cy ad bs F 42 σ ra σa  h) sh_14 rfl (by decide) rfl km_X8_isMark kv_X8_isMark lm_X1_74 dX1_productSign_6 hl.1 rfl rfl (Nat.le_of_ble_eq_true rfl) ⟨by decide, by decide⟩ ⟨Nat.zero_le _, Nat.zero_le _⟩ hf (fun r1 σ2 _ hf H locs hw => ?_)
  refine r_if_eq (tgt := 14) X dX1_productSign_9 (by decide) hf (fun hc hf => ?_) (fun hc hf => ?_)
  · refine lv_aload_n hx hb dX1_productSign_14 rfl (lv_at hl 0 rfl) ?_
    refine r_getr 14 X hw sh_19 fd_1_0 rfl rfl lf_X1_9 dX1_productSign_15 ?_
    refine lv_bipush (v := mI 47) hx hb dX1_productSign_18 (by decide) ?_
    refine r_cvi (rest := []) [.int (mI 47)] X hw (fun ra σa h => c_X8_isMark l D cy ad bs F 47 σ2 ra σa  h) sh_14 rfl (by decide) rfl km_X8_isMark kv_X8_isMark lm_X1_74 dX1_productSign_20 hl.1 rfl rfl (Nat.le_of_ble_eq_true rfl) ⟨by decide, by decide⟩ ⟨Nat.zero_le _, Nat.zero_le _⟩ hf (fun r3 σ4 _ hf H locs hw => ?_)
    refine r_if_eq (tgt := 29) X dX1_productSign_23 (by decide) hf (fun hc hf => ?_) (fun hc hf => ?_)
    · refine lv_aload_n hx hb dX1_productSign_29 rfl (lv_at hl 0 rfl) ?_
      refine r_getr 14 X hw sh_19 fd_1_0 rfl rfl lf_X1_9 dX1_productSign_30 ?_
      refine lv_bipush (v := mI 37) hx hb dX1_productSign_33 (by decide) ?_
      refine r_cvi (rest := []) [.int (mI 37)] X hw (fun ra σa h => c_X8_isMark l D cy ad bs F 37 σ4 ra σa  h) sh_14 rfl (by decide) rfl km_X8_isMark kv_X8_isMark lm_X1_74 dX1_productSign_35 hl.1 rfl rfl (Nat.le_of_ble_eq_true rfl) ⟨by decide, by decide⟩ ⟨Nat.zero_le _, Nat.zero_le _⟩ hf (fun r5 σ6 _ hf H locs hw => ?_)
      refine r_if_eq (tgt := 46) X dX1_productSign_38 (by decide) hf (fun hc hf => ?_) (fun hc hf => ?_)
      · refine lv_iconst (v := mI (-1)) hx hb dX1_productSign_46 rfl ?_
        exact w_X1_productSign_b47 X hw (lv_sub hl [0] rfl) hf
      · refine lv_bipush (v := mI 7) hx hb dX1_productSign_41 (by decide) ?_
        refine lv_goto (tgt := 47) hx hb dX1_productSign_43 (by decide) ?_
        exact w_X1_productSign_b47 X hw (lv_sub hl [0] rfl) hf
    · refine lv_bipush (v := mI 6) hx hb dX1_productSign_26 (by decide) ?_
      exact r_iret X hw dX1_productSign_28 hf
  · refine lv_iconst (v := mI 5) hx hb dX1_productSign_12 rfl ?_
    exact r_iret X hw dX1_productSign_13 hf
def g_X1_knownOf_b29 (F : Nat)  (t0 : Int) (σ : mMem) : mRs := some (t0, σ)
set_option maxRecDepth 100000 in
set_option maxHeartbeats 4000000 in
theorem w_X1_knownOf_b29 {p : Program} {l : Launch} {e : Env} {s : State} {m : MethodId} {args : Array Value} {below : List Frame} {meth : Method} {c : Code} {D : va_G} {cy : Nat → ClassId} {ad : Nat → Nat} {bs : Nat} {F : Nat}  (X : mCx p m c cX1_knownOf 1 s args RX1 meth D cy (some .int))  {r : Int} {σ' : mMem}   {t0 : Int} {σ : mMem} {H : Heap} {locs : List Loc} {ls : Array Slot} (hw : mWd D cy ad bs true mN σ s.heap H locs) (hl : lv_has ls 1 []) (hf : g_X1_knownOf_b29 F t0 σ = some (r, σ')) : mGi p l e 1 s m args below meth c D cy ad bs r σ' H locs (F0 m 29 ls [.int (mI t0)]) := by
  obtain ⟨⟨hx, hb, -, -, -⟩, -⟩ := id X
  unfold g_X1_knownOf_b29 at hf
  exact r_iret X hw dX1_knownOf_29 hf
def g_X1_knownOf_b28 (F : Nat)  (σ : mMem) : mRs := g_X1_knownOf_b29 F (-1) σ
set_option maxRecDepth 100000 in
set_option maxHeartbeats 4000000 in
theorem w_X1_knownOf_b28 {p : Program} {l : Launch} {e : Env} {s : State} {m : MethodId} {args : Array Value} {below : List Frame} {meth : Method} {c : Code} {D : va_G} {cy : Nat → ClassId} {ad : Nat → Nat} {bs : Nat} {F : Nat}  (X : mCx p m c cX1_knownOf 1 s args RX1 meth D cy (some .int))  {r : Int} {σ' : mMem}    {σ : mMem} {H : Heap} {locs : List Loc} {ls : Array Slot} (hw : mWd D cy ad bs true mN σ s.heap H locs) (hl : lv_has ls 1 []) (hf : g_X1_knownOf_b28 F  σ = some (r, σ')) : mGi p l e 1 s m args below meth c D cy ad bs r σ' H locs (F0 m 28 ls []) := by
  obtain ⟨⟨hx, hb, -, -, -⟩, -⟩ := id X
  unfold g_X1_knownOf_b28 at hf
  refine lv_iconst (v := mI (-1)) hx hb dX1_knownOf_28 rfl ?_
  exact w_X1_knownOf_b29 X hw (lv_sub hl [] rfl) hf
def g_X1_knownOf (F : Nat) (x0 : Int) (σ : mMem) : mRs := if ¬ mw x0 = mw 12 then (if mw x0 < mw 15 then (g_X1_knownOf_b28 F σ) else (if mw 20 < mw x0 then (g_X1_knownOf_b28 F σ) else (g_X1_knownOf_b29 F (x0 - 15) σ))) else (some (6, σ))
set_option maxRecDepth 100000 in
set_option maxHeartbeats 4000000 in
theorem c_X1_knownOf (l : Launch) (D : va_G) (cy : Nat → ClassId) (ad : Nat → Nat) (bs : Nat) (F : Nat)  (x0 : Int) (σ : mMem) (r : Int) (σ' : mMem)  (hf : g_X1_knownOf F x0 σ = some (r, σ')) : mCi l D cy ad bs yX1_knownOf cX1_knownOf 1 (some .int) 1 [.int (mI x0)] σ r σ' := by
  refine mCi.of (lv := [(0, .int (mI x0))]) km_X1_knownOf.2.2.2.2.2 (Nat.le_of_ble_eq_true rfl) rfl (fun p e s m args below meth c H locs ls X hw hl => ?_)
  obtain ⟨⟨hx, hb, -, -, -⟩, -⟩ := id X
  unfold g_X1_knownOf at hf
  refine lv_iload_n hx hb dX1_knownOf_0 rfl (lv_at hl 0 rfl) ?_
  refine lv_bipush (v := mI 12) hx hb dX1_knownOf_1 (by decide) ?_
  refine r_icmp_ne (tgt := 9) X dX1_knownOf_3 (by decide) hf (fun hc hf => ?_) (fun hc hf => ?_)
  · refine lv_iload_n hx hb dX1_knownOf_9 rfl (lv_at hl 0 rfl) ?_
    refine lv_bipush (v := mI 15) hx hb dX1_knownOf_10 (by decide) ?_
    refine r_icmp_lt (tgt := 28) X dX1_knownOf_12 (by decide) hf (fun hc hf => ?_) (fun hc hf => ?_)
    · exact w_X1_knownOf_b28 X hw (lv_sub hl [] rfl) hf
    · refine lv_iload_n hx hb dX1_knownOf_15 rfl (lv_at hl 0 rfl) ?_
      refine lv_bipush (v := mI 20) hx hb dX1_knownOf_16 (by decide) ?_
      refine r_icmp_gt (tgt := 28) X dX1_knownOf_18 (by decide) hf (fun hc hf => ?_) (fun hc hf => ?_)
      · exact w_X1_knownOf_b28 X hw (lv_sub hl [] rfl) hf
      · refine lv_iload_n hx hb dX1_knownOf_21 rfl (lv_at hl 0 rfl) ?_
        refine lv_bipush (v := mI 15) hx hb dX1_knownOf_22 (by decide) ?_
        refine r_isub X dX1_knownOf_24 ?_
        refine lv_goto (tgt := 29) hx hb dX1_knownOf_25 (by decide) ?_
        exact w_X1_knownOf_b29 X hw (lv_sub hl [] rfl) hf
  · refine lv_bipush (v := mI 6) hx hb dX1_knownOf_6 (by decide) ?_
    exact r_iret X hw dX1_knownOf_8 hf
def g_X1_known_b59 (F : Nat)  (σ : mMem) : mRs := mob (g_X8_refuseHere F 1 σ) (fun r403 σ404 => some (0, σ404))
set_option maxRecDepth 100000 in
set_option maxHeartbeats 4000000 in
theorem w_X1_known_b59 {p : Program} {l : Launch} {e : Env} {s : State} {m : MethodId} {args : Array Value} {below : List Frame} {meth : Method} {c : Code} {D : va_G} {cy : Nat → ClassId} {ad : Nat → Nat} {bs : Nat} {F : Nat}  (X : mCx p m c cX1_known 3 s args RX1 meth D cy none)  {r : Int} {σ' : mMem}    {σ : mMem} {H : Heap} {locs : List Loc} {ls : Array Slot} (hw : mWd D cy ad bs true mN σ s.heap H locs) (hl : lv_has ls 3 [(0, .ref (ad 19))]) (hf : g_X1_known_b59 F  σ = some (r, σ')) : mGv p l e 3 s m args below meth c D cy ad bs σ' H locs (F0 m 59 ls []) := by
  obtain ⟨⟨hx, hb, -, -, -⟩, -⟩ := id X
  unfold g_X1_known_b59 at hf
  refine lv_aload_n hx hb dX1_known_59 rfl (lv_at hl 0 rfl) ?_
  refine r_getr 14 X hw sh_19 fd_1_0 rfl rfl lf_X1_9 dX1_known_60 ?_
  refine lv_iconst (v := mI 1) hx hb dX1_known_63 rfl ?_
  refine r_cvv (rest := []) [.int (mI 1)] X hw (fun ra σa h => c_X8_refuseHere l D cy ad bs F 1 σ ra σa  h) sh_14 rfl (by decide) rfl km_X8_refuseHere kv_X8_refuseHere lm_X1_85 dX1_known_64 hl.1 rfl rfl (Nat.le_of_ble_eq_true rfl) ⟨by decide, by decide⟩ ⟨Nat.zero_le _, Nat.zero_le _⟩ hf (fun r403 σ404 _ hf H locs hw => ?_)
  exact r_vret X hw dX1_known_67 hf
def g_X1_known_b68 (F : Nat)  (x1 : Int) (σ : mMem) : mRs := if σ 19 1 = 3 ∨ σ 19 1 = 8 then mob (g_X5_emit F (σ 19 1).toNat 1 x1 σ) (fun r506 σ507 => mob (g_X8_next F σ507) (fun r508 σ509 => some (0, σ509))) else none
set_option maxRecDepth 100000 in
set_option maxHeartbeats 4000000 in
theorem w_X1_known_b68 {p : Program} {l : Launch} {e : Env} {s : State} {m : MethodId} {args : Array Value} {below : List Frame} {meth : Method} {c : Code} {D : va_G} {cy : Nat → ClassId} {ad : Nat → Nat} {bs : Nat} {F : Nat}  (X : mCx p m c cX1_known 3 s args RX1 meth D cy none)  {r : Int} {σ' : mMem}   {x1 : Int} {σ : mMem} {H : Heap} {locs : List Loc} {ls : Array Slot} (hw : mWd D cy ad bs true mN σ s.heap H locs) (hl : lv_has ls 3 [(0, .ref (ad 19)), (1, .int (mI x1))]) (hf : g_X1_known_b68 F x1 σ = some (r, σ')) : mGv p l e 3 s m args below meth c D cy ad bs σ' H locs (F0 m 68 ls []) := by
  obtain ⟨⟨hx, hb, -, -, -⟩, -⟩ := id X
  unfold g_X1_known_b68 at hf
  refine lv_aload_n hx hb dX1_known_68 rfl (lv_at hl 0 rfl) ?_
  refine r_getp X hw sh_19 fd_1_1 rfl lf_X1_15 dX1_known_69 hf (fun hg505 hf => ?_)
  refine lv_iconst (v := mI 1) hx hb dX1_known_72 rfl ?_
  refine lv_iload_n hx hb dX1_known_73 rfl (lv_at hl 1 rfl) ?_
  refine r_cvv (rest := []) [.int (mI 1), .int (mI x1)] X hw (fun ra σa h => c_X5_emit l D cy ad bs F (σ 19 1).toNat 1 x1 σ ra σa (mPlan_z hg505) h) (mPlan_z hg505).1 rfl (by decide) rfl km_X5_emit kv_X5_emit lm_X1_64 dX1_known_74 hl.1 rfl rfl (Nat.le_of_ble_eq_true rfl) ⟨by decide, by decide⟩ ⟨Nat.zero_le _, Nat.zero_le _⟩ hf (fun r506 σ507 _ hf H locs hw => ?_)
  refine lv_aload_n hx hb dX1_known_77 rfl (lv_at hl 0 rfl) ?_
  refine r_getr 14 X hw sh_19 fd_1_0 rfl rfl lf_X1_9 dX1_known_78 ?_
  refine r_cvv (rest := []) [] X hw (fun ra σa h => c_X8_next l D cy ad bs F σ507 ra σa  h) sh_14 rfl (by decide) rfl km_X8_next kv_X8_next lm_X1_23 dX1_known_81 hl.1 rfl rfl (Nat.le_of_ble_eq_true rfl) ⟨by decide, by decide⟩ ⟨Nat.zero_le _, Nat.zero_le _⟩ hf (fun r508 σ509 _ hf H locs hw => ?_)
  exact r_vret X hw dX1_known_84 hf
def g_X1_known_b42 (F : Nat)  (x1 t0 : Int) (σ : mMem) : mRs := if mw x1 = mw (-1) then (g_X1_known_b59 F σ) else (if mw t0 = 0 then (g_X1_known_b68 F x1 σ) else (if ¬ mw (σ 19 2) = 0 then (g_X1_known_b68 F x1 σ) else (g_X1_known_b59 F σ)))
set_option maxRecDepth 100000 in
set_option maxHeartbeats 4000000 in
theorem w_X1_known_b42 {p : Program} {l : Launch} {e : Env} {s : State} {m : MethodId} {args : Array Value} {below : List Frame} {meth : Method} {c : Code} {D : va_G} {cy : Nat → ClassId} {ad : Nat → Nat} {bs : Nat} {F : Nat}  (X : mCx p m c cX1_known 3 s args RX1 meth D cy none)  {r : Int} {σ' : mMem}   {x1 t0 : Int} {σ : mMem} {H : Heap} {locs : List Loc} {ls : Array Slot} (hw : mWd D cy ad bs true mN σ s.heap H locs) (hl : lv_has ls 3 [(0, .ref (ad 19)), (1, .int (mI x1))]) (hf : g_X1_known_b42 F x1 t0 σ = some (r, σ')) : mGv p l e 3 s m args below meth c D cy ad bs σ' H locs (F0 m 42 ls [.int (mI t0)]) := by
  obtain ⟨⟨hx, hb, -, -, -⟩, -⟩ := id X
  unfold g_X1_known_b42 at hf
  refine lv_istore_n (lv' := [(2, .int (mI t0)), (0, .ref (ad 19)), (1, .int (mI x1))]) hx hb dX1_known_42 rfl hl (by decide) rfl (fun ls hl => ?_)
  refine lv_iload_n hx hb dX1_known_43 rfl (lv_at hl 2 rfl) ?_
  refine lv_iconst (v := mI (-1)) hx hb dX1_known_44 rfl ?_
  refine r_icmp_eq (tgt := 59) X dX1_known_45 (by decide) hf (fun hc hf => ?_) (fun hc hf => ?_)
  · exact w_X1_known_b59 X hw (lv_sub hl [1] rfl) hf
  · refine lv_iload_n hx hb dX1_known_48 rfl (lv_at hl 0 rfl) ?_
    refine r_if_eq (tgt := 68) X dX1_known_49 (by decide) hf (fun hc hf => ?_) (fun hc hf => ?_)
    · exact w_X1_known_b68 X hw (lv_sub hl [1, 2] rfl) hf
    · refine lv_aload_n hx hb dX1_known_52 rfl (lv_at hl 1 rfl) ?_
      refine r_geti X hw sh_19 fd_1_2 rfl lf_X1_19 dX1_known_53 ?_
      refine r_if_ne (tgt := 68) X dX1_known_56 (by decide) hf (fun hc hf => ?_) (fun hc hf => ?_)
      · exact w_X1_known_b68 X hw (lv_sub hl [1, 2] rfl) hf
      · exact w_X1_known_b59 X hw (lv_sub hl [1] rfl) hf
def g_X1_known_b37 (F : Nat)  (x1 : Int) (σ : mMem) : mRs := g_X1_known_b42 F x1 1 σ
set_option maxRecDepth 100000 in
set_option maxHeartbeats 4000000 in
theorem w_X1_known_b37 {p : Program} {l : Launch} {e : Env} {s : State} {m : MethodId} {args : Array Value} {below : List Frame} {meth : Method} {c : Code} {D : va_G} {cy : Nat → ClassId} {ad : Nat → Nat} {bs : Nat} {F : Nat}  (X : mCx p m c cX1_known 3 s args RX1 meth D cy none)  {r : Int} {σ' : mMem}   {x1 : Int} {σ : mMem} {H : Heap} {locs : List Loc} {ls : Array Slot} (hw : mWd D cy ad bs true mN σ s.heap H locs) (hl : lv_has ls 3 [(0, .ref (ad 19)), (1, .int (mI x1))]) (hf : g_X1_known_b37 F x1 σ = some (r, σ')) : mGv p l e 3 s m args below meth c D cy ad bs σ' H locs (F0 m 37 ls []) := by
  obtain ⟨⟨hx, hb, -, -, -⟩, -⟩ := id X
  unfold g_X1_known_b37 at hf
  refine lv_iconst (v := mI 1) hx hb dX1_known_37 rfl ?_
  refine lv_goto (tgt := 42) hx hb dX1_known_38 (by decide) ?_
  exact w_X1_known_b42 X hw (lv_sub hl [0, 1] rfl) hf
def g_X1_known_b25 (F : Nat)  (t0 : Int) (σ : mMem) : mRs := if mw t0 = mw 5 then (g_X1_known_b37 F t0 σ) else (if ¬ mw t0 = mw 6 then (g_X1_known_b42 F t0 0 σ) else (g_X1_known_b37 F t0 σ))
set_option maxRecDepth 100000 in
set_option maxHeartbeats 4000000 in
theorem w_X1_known_b25 {p : Program} {l : Launch} {e : Env} {s : State} {m : MethodId} {args : Array Value} {below : List Frame} {meth : Method} {c : Code} {D : va_G} {cy : Nat → ClassId} {ad : Nat → Nat} {bs : Nat} {F : Nat}  (X : mCx p m c cX1_known 3 s args RX1 meth D cy none)  {r : Int} {σ' : mMem}   {t0 : Int} {σ : mMem} {H : Heap} {locs : List Loc} {ls : Array Slot} (hw : mWd D cy ad bs true mN σ s.heap H locs) (hl : lv_has ls 3 [(0, .ref (ad 19))]) (hf : g_X1_known_b25 F t0 σ = some (r, σ')) : mGv p l e 3 s m args below meth c D cy ad bs σ' H locs (F0 m 25 ls [.int (mI t0)]) := by
  obtain ⟨⟨hx, hb, -, -, -⟩, -⟩ := id X
  unfold g_X1_known_b25 at hf
  refine lv_istore_n (lv' := [(1, .int (mI t0)), (0, .ref (ad 19))]) hx hb dX1_known_25 rfl hl (by decide) rfl (fun ls hl => ?_)
  refine lv_iload_n hx hb dX1_known_26 rfl (lv_at hl 0 rfl) ?_
  refine lv_iconst (v := mI 5) hx hb dX1_known_27 rfl ?_
  refine r_icmp_eq (tgt := 37) X dX1_known_28 (by decide) hf (fun hc hf => ?_) (fun hc hf => ?_)
  · exact w_X1_known_b37 X hw (lv_sub hl [1, 0] rfl) hf
  · refine lv_iload_n hx hb dX1_known_31 rfl (lv_at hl 0 rfl) ?_
    refine lv_bipush (v := mI 6) hx hb dX1_known_32 (by decide) ?_
    refine r_icmp_ne (tgt := 41) X dX1_known_34 (by decide) hf (fun hc hf => ?_) (fun hc hf => ?_)
    · refine lv_iconst (v := mI 0) hx hb dX1_known_41 rfl ?_
      exact w_X1_known_b42 X hw (lv_sub hl [1, 0] rfl) hf
    · exact w_X1_known_b37 X hw (lv_sub hl [1, 0] rfl) hf
def g_X1_known (F : Nat) (σ : mMem) : mRs := if ¬ mw (σ 14 7) = mw 2 then (g_X1_known_b25 F (-1) σ) else (mob (g_X1_knownOf F (σ 14 9) σ) (fun r1 σ2 => g_X1_known_b25 F r1 σ2))
set_option maxRecDepth 100000 in
set_option maxHeartbeats 4000000 in
theorem c_X1_known (l : Launch) (D : va_G) (cy : Nat → ClassId) (ad : Nat → Nat) (bs : Nat) (F : Nat)   (σ : mMem) (r : Int) (σ' : mMem)  (hf : g_X1_known F  σ = some (r, σ')) : mCv l D cy ad bs yX1_known cX1_known 3 none 3 [.ref (ad 19)] σ σ' := by
  refine mCv.of (lv := [(0, .ref (ad 19))]) km_X1_known.2.2.2.2.2 (Nat.le_of_ble_eq_true rfl) rfl (fun p e s m args below meth c H locs ls X hw hl => ?_)
  obtain ⟨⟨hx, hb, -, -, -⟩, -⟩ := id X
  unfold g_X1_known at hf
  refine lv_aload_n hx hb dX1_known_0 rfl (lv_at hl 0 rfl) ?_
  refine r_getr 14 X hw sh_19 fd_1_0 rfl rfl lf_X1_9 dX1_known_1 ?_
  refine r_geti X hw sh_14 fd_8_7 rfl lf_X1_98 dX1_known_4 ?_
  refine lv_iconst (v := mI 2) hx hb dX1_known_7 rfl ?_
  refine r_icmp_ne (tgt := 24) X dX1_known_8 (by decide) hf (fun hc hf => ?_) (fun hc hf => ?_)
  · refine lv_iconst (v := mI (-1)) hx hb dX1_known_24 rfl ?_
    exact w_X1_known_b25 X hw (lv_sub hl [0] rfl) hf
  · refine lv_aload_n hx hb dX1_known_11 rfl (lv_at hl 0 rfl) ?_
    refine r_getr 14 X hw sh_19 fd_1_0 rfl rfl lf_X1_9 dX1_known_12 ?_
    refine r_geti X hw sh_14 fd_8_9 rfl lf_X1_101 dX1_known_15 ?_
    refine r_csi (rest := []) [.int (mI (σ 14 9))] X hw (fun ra σa h => c_X1_knownOf l D cy ad bs F (σ 14 9) σ ra σa  h) km_X1_knownOf ks_X1_knownOf lm_X1_110 dX1_known_18 hl.1 rfl rfl (Nat.le_of_ble_eq_true rfl) ⟨by decide, by decide⟩ ⟨Nat.zero_le _, Nat.zero_le _⟩ hf (fun r1 σ2 _ hf H locs hw => ?_)
    refine lv_goto (tgt := 25) hx hb dX1_known_21 (by decide) ?_
    exact w_X1_known_b25 X hw (lv_sub hl [0] rfl) hf
