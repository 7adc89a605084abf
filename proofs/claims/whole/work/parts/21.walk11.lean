def g_X12_kitchen_b131 (F : Nat)  (x1 : Int) (σ : mMem) : mRs := mlm (mup σ 86 10 (σ 86 8)) (fun σ223 => mlm (mup σ223 86 11 (σ223 86 9)) (fun σ224 => if mw (σ224 86 8) ≤ 0 then (mlm (mup σ224 86 13 (σ224 86 30)) (fun σ225 => mob (g_X12_begin F σ225) (fun r226 σ227 => some (x1, σ227)))) else (mob (g_X12_refuses F 1 σ224) (fun r228 σ229 => some (r228, σ229)))))
set_option maxRecDepth 100000 in
set_option maxHeartbeats 4000000 in
theorem w_X12_kitchen_b131 {p : Program} {l : Launch} {e : Env} {s : State} {m : MethodId} {args : Array Value} {below : List Frame} {meth : Method} {c : Code} {D : va_G} {cy : Nat → ClassId} {ad : Nat → Nat} {bs : Nat} {F : Nat}  (X : mCx p m c cX12_kitchen 2 s args RX12 meth D cy (some .int))  {r : Int} {σ' : mMem}   {x1 : Int} {σ : mMem} {H : Heap} {locs : List Loc} {ls : Array Slot} (hw : mWd D cy ad bs true mN σ s.heap H locs) (hl : lv_has ls 2 [(0, .ref (ad 86)), (1, .int (mI x1))]) (hf : g_X12_kitchen_b131 F x1 σ = some (r, σ')) : mGi p l e 8 s m args below meth c D cy ad bs r σ' H locs (F0 m 131 ls []) := by
  obtain ⟨⟨hx, hb, -, -, -⟩, -⟩ := id X
  unfold g_X12_kitchen_b131 at hf
  refine lv_aload_n hx hb dX12_kitchen_131 rfl (lv_at hl 0 rfl) ?_
  refine lv_aload_n hx hb dX12_kitchen_132 rfl (lv_at hl 0 rfl) ?_
  refine r_geti X hw sh_86 fd_12_8 rfl lf_X12_36 dX12_kitchen_133 ?_
  refine r_puti X hw sh_86 fd_12_10 fp_12_10 rfl rfl lf_X12_42 dX12_kitchen_136 (fun H locs hw => ?_)
  refine r_mem hf hw (fun σ223 hw hf => ?_)
  refine lv_aload_n hx hb dX12_kitchen_139 rfl (lv_at hl 0 rfl) ?_
  refine lv_aload_n hx hb dX12_kitchen_140 rfl (lv_at hl 0 rfl) ?_
  refine r_geti X hw sh_86 fd_12_9 rfl lf_X12_39 dX12_kitchen_141 ?_
  refine r_puti X hw sh_86 fd_12_11 fp_12_11 rfl rfl lf_X12_45 dX12_kitchen_144 (fun H locs hw => ?_)
  refine r_mem hf hw (fun σ224 hw hf => ?_)
  refine lv_aload_n hx hb dX12_kitchen_147 rfl (lv_at hl 0 rfl) ?_
  refine r_geti X hw sh_86 fd_12_8 rfl lf_X12_36 dX12_kitchen_148 ?_
  refine r_if_le (tgt := 160) X dX12_kitchen_151 (by decide) hf (fun hc hf => ?_) (fun hc hf => ?_)
  · refine lv_aload_n hx hb dX12_kitchen_160 rfl (lv_at hl 0 rfl) ?_
    refine lv_aload_n hx hb dX12_kitchen_161 rfl (lv_at hl 0 rfl) ?_
    refine r_geti X hw sh_86 fd_12_30 rfl lf_X12_103 dX12_kitchen_162 ?_
    refine r_puti X hw sh_86 fd_12_13 fp_12_13 rfl rfl lf_X12_51 dX12_kitchen_165 (fun H locs hw => ?_)
    refine r_mem hf hw (fun σ225 hw hf => ?_)
    refine lv_aload_n hx hb dX12_kitchen_168 rfl (lv_at hl 0 rfl) ?_
    refine r_cvv (rest := []) [] X hw (fun ra σa h => c_X12_begin l D cy ad bs F σ225 ra σa  h) sh_86 rfl (by decide) rfl km_X12_begin kv_X12_begin lm_X12_412 dX12_kitchen_169 hl.1 rfl rfl (Nat.le_of_ble_eq_true rfl) ⟨by decide, by decide⟩ ⟨Nat.zero_le _, Nat.zero_le _⟩ hf (fun r226 σ227 _ hf H locs hw => ?_)
    refine lv_iload_n hx hb dX12_kitchen_172 rfl (lv_at hl 1 rfl) ?_
    exact r_iret X hw dX12_kitchen_173 hf
  · refine lv_aload_n hx hb dX12_kitchen_154 rfl (lv_at hl 0 rfl) ?_
    refine lv_iconst (v := mI 1) hx hb dX12_kitchen_155 rfl ?_
    refine r_cvi (rest := []) [.int (mI 1)] X hw (fun ra σa h => c_X12_refuses l D cy ad bs F 1 σ224 ra σa  h) sh_86 rfl (by decide) rfl km_X12_refuses kv_X12_refuses lm_X12_235 dX12_kitchen_156 hl.1 rfl rfl (Nat.le_of_ble_eq_true rfl) ⟨by decide, by decide⟩ ⟨Nat.zero_le _, Nat.zero_le _⟩ hf (fun r228 σ229 _ hf H locs hw => ?_)
    exact r_iret X hw dX12_kitchen_159 hf
def g_X12_kitchen_h102 (F : Nat)  : Nat → Int → mMem → mRs
  | 0, _, _ => none
  | n + 1, x1, σ => if ¬ mw (σ 86 8) = 0 then (g_X12_kitchen_b131 F x1 σ) else (if mw (σ 86 3) = 0 then (g_X12_kitchen_b131 F x1 σ) else (mob (g_X12_statement F σ) (fun r119 σ120 => mob (g_X12_finishes F (x1 + 1) σ120) (fun r121 σ122 => (g_X12_kitchen_h102 F n) (x1 + 1) σ122))))
set_option maxRecDepth 100000 in
set_option maxHeartbeats 4000000 in
theorem w_X12_kitchen_h102 {p : Program} {l : Launch} {e : Env} {s : State} {m : MethodId} {args : Array Value} {below : List Frame} {meth : Method} {c : Code} {D : va_G} {cy : Nat → ClassId} {ad : Nat → Nat} {bs : Nat} {F : Nat}  (X : mCx p m c cX12_kitchen 2 s args RX12 meth D cy (some .int))  {r : Int} {σ' : mMem}   (n : Nat) : ∀ {x1 : Int} {σ : mMem} {H : Heap} {locs : List Loc} {ls : Array Slot} (_ : mWd D cy ad bs true mN σ s.heap H locs) (_ : lv_has ls 2 [(0, .ref (ad 86)), (1, .int (mI x1))]) (_ : g_X12_kitchen_h102 F n x1 σ = some (r, σ')), mGi p l e 8 s m args below meth c D cy ad bs r σ' H locs (F0 m 102 ls []) := by
  obtain ⟨⟨hx, hb, -, -, -⟩, -⟩ := id X
  induction n with
  | zero =>
    intro x1 σ H locs ls hw hl hf
    unfold g_X12_kitchen_h102 at hf
    cases hf
  | succ n ih =>
    have hk102 : ∀ (x1 : Int) (σ : mMem) (H : Heap) (locs : List Loc) (ls : Array Slot), mWd D cy ad bs true mN σ s.heap H locs → lv_has ls 2 [(0, .ref (ad 86)), (1, .int (mI x1))] → g_X12_kitchen_h102 F n x1 σ = some (r, σ') → mGi p l e 8 s m args below meth c D cy ad bs r σ' H locs (F0 m 102 ls []) := fun x1 σ H locs ls hw hl hf => ih hw hl hf
    intro x1 σ H locs ls hw hl hf
    unfold g_X12_kitchen_h102 at hf
    refine lv_aload_n hx hb dX12_kitchen_102 rfl (lv_at hl 0 rfl) ?_
    refine r_geti X hw sh_86 fd_12_8 rfl lf_X12_36 dX12_kitchen_103 ?_
    refine r_if_ne (tgt := 131) X dX12_kitchen_106 (by decide) hf (fun hc hf => ?_) (fun hc hf => ?_)
    · exact w_X12_kitchen_b131 X hw (lv_sub hl [0, 1] rfl) hf
    · refine lv_aload_n hx hb dX12_kitchen_109 rfl (lv_at hl 0 rfl) ?_
      refine r_geti X hw sh_86 fd_12_3 rfl lf_X12_20 dX12_kitchen_110 ?_
      refine r_if_eq (tgt := 131) X dX12_kitchen_113 (by decide) hf (fun hc hf => ?_) (fun hc hf => ?_)
      · exact w_X12_kitchen_b131 X hw (lv_sub hl [0, 1] rfl) hf
      · refine lv_aload_n hx hb dX12_kitchen_116 rfl (lv_at hl 0 rfl) ?_
        refine r_cvv (rest := []) [] X hw (fun ra σa h => c_X12_statement l D cy ad bs F σ ra σa  h) sh_86 rfl (by decide) rfl km_X12_statement kv_X12_statement lm_X12_409 dX12_kitchen_117 hl.1 rfl rfl (Nat.le_of_ble_eq_true rfl) ⟨by decide, by decide⟩ ⟨Nat.zero_le _, Nat.zero_le _⟩ hf (fun r119 σ120 _ hf H locs hw => ?_)
        refine lv_iinc (v := mI (x1 + 1)) (lv' := [(1, .int (mI (x1 + 1))), (0, .ref (ad 86))]) hx hb dX12_kitchen_120 hl (k := 1) rfl (mI_add _ _) (by decide) rfl (fun ls hl => ?_)
        refine lv_aload_n hx hb dX12_kitchen_123 rfl (lv_at hl 1 rfl) ?_
        refine lv_iload_n hx hb dX12_kitchen_124 rfl (lv_at hl 0 rfl) ?_
        refine r_cvv (rest := []) [.int (mI (x1 + 1))] X hw (fun ra σa h => c_X12_finishes l D cy ad bs F (x1 + 1) σ120 ra σa  h) sh_86 rfl (by decide) rfl km_X12_finishes kv_X12_finishes lm_X12_406 dX12_kitchen_125 hl.1 rfl rfl (Nat.le_of_ble_eq_true rfl) ⟨by decide, by decide⟩ ⟨Nat.zero_le _, Nat.zero_le _⟩ hf (fun r121 σ122 _ hf H locs hw => ?_)
        refine lv_goto (tgt := 102) hx hb dX12_kitchen_128 (by decide) ?_
        exact hk102 (x1 + 1) σ122 _ _ _ hw (lv_sub hl [1, 0] rfl) hf
def g_X12_kitchen (F : Nat) (σ : mMem) : mRs := mlm (mup σ 86 2 (σ 86 1)) (fun σ1 => mlm (mup σ1 86 1 0) (fun σ2 => mlm (mup σ2 86 5 0) (fun σ3 => mlm (mup σ3 86 8 0) (fun σ4 => mlm (mup σ4 86 9 (-1)) (fun σ5 => mlm (mup σ5 86 30 (1 - (σ5 86 13))) (fun σ6 => if 0 ≤ mw (σ6 86 30) ∧ mw (σ6 86 30) < (2 : Int) then mlm (mup σ6 91 (mw (σ6 86 30)).toNat 0) (fun σ7 => mob (g_X12_isDefault F (σ7 86 30) σ7) (fun r8 σ9 => if 0 ≤ mw (2 * (σ9 86 30)) ∧ mw (2 * (σ9 86 30)) < (4 : Int) then mlm (mup σ9 98 (mw (2 * (σ9 86 30))).toNat (-1)) (fun σ10 => if 0 ≤ mw ((2 * (σ10 86 30)) + 1) ∧ mw ((2 * (σ10 86 30)) + 1) < (4 : Int) then mlm (mup σ10 98 (mw ((2 * (σ10 86 30)) + 1)).toNat (-1)) (fun σ11 => mlm (mup σ11 86 29 0) (fun σ12 => mob (g_X12_ahead F σ12) (fun r13 σ14 => mob (g_X12_begins F σ14) (fun r15 σ16 => mob (g_X12_finishes F 1 σ16) (fun r17 σ18 => g_X12_kitchen_h102 F F 1 σ18))))) else none) else none)) else none))))))
set_option maxRecDepth 100000 in
set_option maxHeartbeats 4000000 in
theorem c_X12_kitchen (l : Launch) (D : va_G) (cy : Nat → ClassId) (ad : Nat → Nat) (bs : Nat) (F : Nat)   (σ : mMem) (r : Int) (σ' : mMem)  (hf : g_X12_kitchen F  σ = some (r, σ')) : mCi l D cy ad bs yX12_kitchen cX12_kitchen 2 (some .int) 8 [.ref (ad 86)] σ r σ' := by
  refine mCi.of (lv := [(0, .ref (ad 86))]) km_X12_kitchen.2.2.2.2.2 (Nat.le_of_ble_eq_true rfl) rfl (fun p e s m args below meth c H locs ls X hw hl => ?_)
  obtain ⟨⟨hx, hb, -, -, -⟩, -⟩ := id X
  unfold g_X12_kitchen at hf
  refine lv_aload_n hx hb dX12_kitchen_0 rfl (lv_at hl 0 rfl) ?_
  refine lv_aload_n hx hb dX12_kitchen_1 rfl (lv_at hl 0 rfl) ?_
  refine r_geti X hw sh_86 fd_12_1 rfl lf_X12_13 dX12_kitchen_2 ?_
  refine r_puti X hw sh_86 fd_12_2 fp_12_2 rfl rfl lf_X12_17 dX12_kitchen_5 (fun H locs hw => ?_)
  refine r_mem hf hw (fun σ1 hw hf => ?_)
  refine lv_aload_n hx hb dX12_kitchen_8 rfl (lv_at hl 0 rfl) ?_
  refine lv_iconst (v := mI 0) hx hb dX12_kitchen_9 rfl ?_
  refine r_puti X hw sh_86 fd_12_1 fp_12_1 rfl rfl lf_X12_13 dX12_kitchen_10 (fun H locs hw => ?_)
  refine r_mem hf hw (fun σ2 hw hf => ?_)
  refine lv_aload_n hx hb dX12_kitchen_13 rfl (lv_at hl 0 rfl) ?_
  refine lv_iconst (v := mI 0) hx hb dX12_kitchen_14 rfl ?_
  refine r_puti X hw sh_86 fd_12_5 fp_12_5 rfl rfl lf_X12_26 dX12_kitchen_15 (fun H locs hw => ?_)
  refine r_mem hf hw (fun σ3 hw hf => ?_)
  refine lv_aload_n hx hb dX12_kitchen_18 rfl (lv_at hl 0 rfl) ?_
  refine lv_iconst (v := mI 0) hx hb dX12_kitchen_19 rfl ?_
  refine r_puti X hw sh_86 fd_12_8 fp_12_8 rfl rfl lf_X12_36 dX12_kitchen_20 (fun H locs hw => ?_)
  refine r_mem hf hw (fun σ4 hw hf => ?_)
  refine lv_aload_n hx hb dX12_kitchen_23 rfl (lv_at hl 0 rfl) ?_
  refine lv_iconst (v := mI (-1)) hx hb dX12_kitchen_24 rfl ?_
  refine r_puti X hw sh_86 fd_12_9 fp_12_9 rfl rfl lf_X12_39 dX12_kitchen_25 (fun H locs hw => ?_)
  refine r_mem hf hw (fun σ5 hw hf => ?_)
  refine lv_aload_n hx hb dX12_kitchen_28 rfl (lv_at hl 0 rfl) ?_
  refine lv_iconst (v := mI 1) hx hb dX12_kitchen_29 rfl ?_
  refine lv_aload_n hx hb dX12_kitchen_30 rfl (lv_at hl 0 rfl) ?_
  refine r_geti X hw sh_86 fd_12_13 rfl lf_X12_51 dX12_kitchen_31 ?_
  refine r_isub X dX12_kitchen_34 ?_
  refine r_puti X hw sh_86 fd_12_30 fp_12_30 rfl rfl lf_X12_103 dX12_kitchen_35 (fun H locs hw => ?_)
  refine r_mem hf hw (fun σ6 hw hf => ?_)
  refine lv_aload_n hx hb dX12_kitchen_38 rfl (lv_at hl 0 rfl) ?_
  refine r_getr 91 X hw sh_86 fd_12_17 rfl rfl lf_X12_63 dX12_kitchen_39 ?_
  refine lv_aload_n hx hb dX12_kitchen_42 rfl (lv_at hl 0 rfl) ?_
  refine r_geti X hw sh_86 fd_12_30 rfl lf_X12_103 dX12_kitchen_43 ?_
  refine lv_iconst (v := mI 0) hx hb dX12_kitchen_46 rfl ?_
  refine r_iast (2 : Int) rfl X hw sh_91 dX12_kitchen_47 hf (fun hf H locs hw => ?_)
  refine r_mem hf hw (fun σ7 hw hf => ?_)
  refine lv_aload_n hx hb dX12_kitchen_48 rfl (lv_at hl 0 rfl) ?_
  refine lv_aload_n hx hb dX12_kitchen_49 rfl (lv_at hl 0 rfl) ?_
  refine r_geti X hw sh_86 fd_12_30 rfl lf_X12_103 dX12_kitchen_50 ?_
  refine r_cvv (rest := []) [.int (mI (σ7 86 30))] X hw (fun ra σa h => c_X12_isDefault l D cy ad bs F (σ7 86 30) σ7 ra σa  h) sh_86 rfl (by decide) rfl km_X12_isDefault kv_X12_isDefault lm_X12_231 dX12_kitchen_53 hl.1 rfl rfl (Nat.le_of_ble_eq_true rfl) ⟨by decide, by decide⟩ ⟨Nat.zero_le _, Nat.zero_le _⟩ hf (fun r8 σ9 _ hf H locs hw => ?_)
  refine lv_aload_n hx hb dX12_kitchen_56 rfl (lv_at hl 0 rfl) ?_
  refine r_getr 98 X hw sh_86 fd_12_24 rfl rfl lf_X12_84 dX12_kitchen_57 ?_
  refine lv_iconst (v := mI 2) hx hb dX12_kitchen_60 rfl ?_
  refine lv_aload_n hx hb dX12_kitchen_61 rfl (lv_at hl 0 rfl) ?_
  refine r_geti X hw sh_86 fd_12_30 rfl lf_X12_103 dX12_kitchen_62 ?_
  refine r_imul X dX12_kitchen_65 ?_
  refine lv_iconst (v := mI (-1)) hx hb dX12_kitchen_66 rfl ?_
  refine r_iast (4 : Int) rfl X hw sh_98 dX12_kitchen_67 hf (fun hf H locs hw => ?_)
  refine r_mem hf hw (fun σ10 hw hf => ?_)
  refine lv_aload_n hx hb dX12_kitchen_68 rfl (lv_at hl 0 rfl) ?_
  refine r_getr 98 X hw sh_86 fd_12_24 rfl rfl lf_X12_84 dX12_kitchen_69 ?_
  refine lv_iconst (v := mI 2) hx hb dX12_kitchen_72 rfl ?_
  refine lv_aload_n hx hb dX12_kitchen_73 rfl (lv_at hl 0 rfl) ?_
  refine r_geti X hw sh_86 fd_12_30 rfl lf_X12_103 dX12_kitchen_74 ?_
  refine r_imul X dX12_kitchen_77 ?_
  refine lv_iconst (v := mI 1) hx hb dX12_kitchen_78 rfl ?_
  refine r_iadd X dX12_kitchen_79 ?_
  refine lv_iconst (v := mI (-1)) hx hb dX12_kitchen_80 rfl ?_
  refine r_iast (4 : Int) rfl X hw sh_98 dX12_kitchen_81 hf (fun hf H locs hw => ?_)
  refine r_mem hf hw (fun σ11 hw hf => ?_)
  refine lv_aload_n hx hb dX12_kitchen_82 rfl (lv_at hl 0 rfl) ?_
  refine lv_iconst (v := mI 0) hx hb dX12_kitchen_83 rfl ?_
  refine r_puti X hw sh_86 fd_12_29 fp_12_29 rfl rfl lf_X12_100 dX12_kitchen_84 (fun H locs hw => ?_)
  refine r_mem hf hw (fun σ12 hw hf => ?_)
  refine lv_aload_n hx hb dX12_kitchen_87 rfl (lv_at hl 0 rfl) ?_
  refine r_cvv (rest := []) [] X hw (fun ra σa h => c_X12_ahead l D cy ad bs F σ12 ra σa  h) sh_86 rfl (by decide) rfl km_X12_ahead kv_X12_ahead lm_X12_259 dX12_kitchen_88 hl.1 rfl rfl (Nat.le_of_ble_eq_true rfl) ⟨by decide, by decide⟩ ⟨Nat.zero_le _, Nat.zero_le _⟩ hf (fun r13 σ14 _ hf H locs hw => ?_)
  refine lv_aload_n hx hb dX12_kitchen_91 rfl (lv_at hl 0 rfl) ?_
  refine r_cvv (rest := []) [] X hw (fun ra σa h => c_X12_begins l D cy ad bs F σ14 ra σa  h) sh_86 rfl (by decide) rfl km_X12_begins kv_X12_begins lm_X12_404 dX12_kitchen_92 hl.1 rfl rfl (Nat.le_of_ble_eq_true rfl) ⟨by decide, by decide⟩ ⟨Nat.zero_le _, Nat.zero_le _⟩ hf (fun r15 σ16 _ hf H locs hw => ?_)
  refine lv_iconst (v := mI 1) hx hb dX12_kitchen_95 rfl ?_
  refine lv_istore_n (lv' := [(1, .int (mI 1)), (0, .ref (ad 86))]) hx hb dX12_kitchen_96 rfl hl (by decide) rfl (fun ls hl => ?_)
  refine lv_aload_n hx hb dX12_kitchen_97 rfl (lv_at hl 1 rfl) ?_
  refine lv_iload_n hx hb dX12_kitchen_98 rfl (lv_at hl 0 rfl) ?_
  refine r_cvv (rest := []) [.int (mI 1)] X hw (fun ra σa h => c_X12_finishes l D cy ad bs F 1 σ16 ra σa  h) sh_86 rfl (by decide) rfl km_X12_finishes kv_X12_finishes lm_X12_406 dX12_kitchen_99 hl.1 rfl rfl (Nat.le_of_ble_eq_true rfl) ⟨by decide, by decide⟩ ⟨Nat.zero_le _, Nat.zero_le _⟩ hf (fun r17 σ18 _ hf H locs hw => ?_)
  exact w_X12_kitchen_h102 X _ hw (lv_sub hl [1, 0] rfl) hf
def g_X12_fault_b24 (F : Nat)  (t0 : Int) (σ : mMem) : mRs := some (t0, σ)
set_option maxRecDepth 100000 in
set_option maxHeartbeats 4000000 in
theorem w_X12_fault_b24 {p : Program} {l : Launch} {e : Env} {s : State} {m : MethodId} {args : Array Value} {below : List Frame} {meth : Method} {c : Code} {D : va_G} {cy : Nat → ClassId} {ad : Nat → Nat} {bs : Nat} {F : Nat}  (X : mCx p m c cX12_fault 2 s args RX12 meth D cy (some .int))  {r : Int} {σ' : mMem}   {t0 : Int} {σ : mMem} {H : Heap} {locs : List Loc} {ls : Array Slot} (hw : mWd D cy ad bs true mN σ s.heap H locs) (hl : lv_has ls 2 [(0, .ref (ad 86))]) (hf : g_X12_fault_b24 F t0 σ = some (r, σ')) : mGi p l e 1 s m args below meth c D cy ad bs r σ' H locs (F0 m 24 ls [.int (mI t0)]) := by
  obtain ⟨⟨hx, hb, -, -, -⟩, -⟩ := id X
  unfold g_X12_fault_b24 at hf
  exact r_iret X hw dX12_fault_24 hf
def g_X12_fault (F : Nat) (x1 : Int) (σ : mMem) : mRs := if ¬ mw x1 = 0 then (if ¬ mw x1 = mw 1 then (g_X12_fault_b24 F (-1) σ) else (g_X12_fault_b24 F (σ 86 11) σ)) else (g_X12_fault_b24 F (σ 86 10) σ)
set_option maxRecDepth 100000 in
set_option maxHeartbeats 4000000 in
theorem c_X12_fault (l : Launch) (D : va_G) (cy : Nat → ClassId) (ad : Nat → Nat) (bs : Nat) (F : Nat)  (x1 : Int) (σ : mMem) (r : Int) (σ' : mMem)  (hf : g_X12_fault F x1 σ = some (r, σ')) : mCi l D cy ad bs yX12_fault cX12_fault 2 (some .int) 1 [.ref (ad 86), .int (mI x1)] σ r σ' := by
  refine mCi.of (lv := [(0, .ref (ad 86)), (1, .int (mI x1))]) km_X12_fault.2.2.2.2.2 (Nat.le_of_ble_eq_true rfl) rfl (fun p e s m args below meth c H locs ls X hw hl => ?_)
  obtain ⟨⟨hx, hb, -, -, -⟩, -⟩ := id X
  unfold g_X12_fault at hf
  refine lv_iload_n hx hb dX12_fault_0 rfl (lv_at hl 1 rfl) ?_
  refine r_if_ne (tgt := 11) X dX12_fault_1 (by decide) hf (fun hc hf => ?_) (fun hc hf => ?_)
  · refine lv_iload_n hx hb dX12_fault_11 rfl (lv_at hl 1 rfl) ?_
    refine lv_iconst (v := mI 1) hx hb dX12_fault_12 rfl ?_
    refine r_icmp_ne (tgt := 23) X dX12_fault_13 (by decide) hf (fun hc hf => ?_) (fun hc hf => ?_)
    · refine lv_iconst (v := mI (-1)) hx hb dX12_fault_23 rfl ?_
      exact w_X12_fault_b24 X hw (lv_sub hl [0] rfl) hf
    · refine lv_aload_n hx hb dX12_fault_16 rfl (lv_at hl 0 rfl) ?_
      refine r_geti X hw sh_86 fd_12_11 rfl lf_X12_45 dX12_fault_17 ?_
      refine lv_goto (tgt := 24) hx hb dX12_fault_20 (by decide) ?_
      exact w_X12_fault_b24 X hw (lv_sub hl [0] rfl) hf
  · refine lv_aload_n hx hb dX12_fault_4 rfl (lv_at hl 0 rfl) ?_
    refine r_geti X hw sh_86 fd_12_10 rfl lf_X12_42 dX12_fault_5 ?_
    refine lv_goto (tgt := 24) hx hb dX12_fault_8 (by decide) ?_
    exact w_X12_fault_b24 X hw (lv_sub hl [0] rfl) hf
def g_X12_status_b19 (F : Nat)  (t0 : Int) (σ : mMem) : mRs := some (t0, σ)
set_option maxRecDepth 100000 in
set_option maxHeartbeats 4000000 in
theorem w_X12_status_b19 {p : Program} {l : Launch} {e : Env} {s : State} {m : MethodId} {args : Array Value} {below : List Frame} {meth : Method} {c : Code} {D : va_G} {cy : Nat → ClassId} {ad : Nat → Nat} {bs : Nat} {F : Nat}  (X : mCx p m c cX12_status 2 s args RX12 meth D cy (some .int))  {r : Int} {σ' : mMem}   {t0 : Int} {σ : mMem} {H : Heap} {locs : List Loc} {ls : Array Slot} (hw : mWd D cy ad bs true mN σ s.heap H locs) (hl : lv_has ls 2 [(0, .ref (ad 86))]) (hf : g_X12_status_b19 F t0 σ = some (r, σ')) : mGi p l e 2 s m args below meth c D cy ad bs r σ' H locs (F0 m 19 ls [.int (mI t0)]) := by
  obtain ⟨⟨hx, hb, -, -, -⟩, -⟩ := id X
  unfold g_X12_status_b19 at hf
  exact r_iret X hw dX12_status_19 hf
def g_X12_status (F : Nat) (x1 : Int) (σ : mMem) : mRs := mob (g_X12_is F x1 0 5 σ) (fun r1 σ2 => if mw r1 = 0 then (g_X12_status_b19 F (-1) σ2) else (if 0 ≤ mw x1 ∧ mw x1 < (6 : Int) then g_X12_status_b19 F (σ2 109 (mw x1).toNat) σ2 else none))
set_option maxRecDepth 100000 in
set_option maxHeartbeats 4000000 in
theorem c_X12_status (l : Launch) (D : va_G) (cy : Nat → ClassId) (ad : Nat → Nat) (bs : Nat) (F : Nat)  (x1 : Int) (σ : mMem) (r : Int) (σ' : mMem)  (hf : g_X12_status F x1 σ = some (r, σ')) : mCi l D cy ad bs yX12_status cX12_status 2 (some .int) 2 [.ref (ad 86), .int (mI x1)] σ r σ' := by
  refine mCi.of (lv := [(0, .ref (ad 86)), (1, .int (mI x1))]) km_X12_status.2.2.2.2.2 (Nat.le_of_ble_eq_true rfl) rfl (fun p e s m args below meth c H locs ls X hw hl => ?_)
  obtain ⟨⟨hx, hb, -, -, -⟩, -⟩ := id X
  unfold g_X12_status at hf
  refine lv_iload_n hx hb dX12_status_0 rfl (lv_at hl 1 rfl) ?_
  refine lv_iconst (v := mI 0) hx hb dX12_status_1 rfl ?_
  refine lv_iconst (v := mI 5) hx hb dX12_status_2 rfl ?_
  refine r_csi (rest := []) [.int (mI x1), .int (mI 0), .int (mI 5)] X hw (fun ra σa h => c_X12_is l D cy ad bs F x1 0 5 σ ra σa  h) km_X12_is ks_X12_is lm_X12_318 dX12_status_3 hl.1 rfl rfl (Nat.le_of_ble_eq_true rfl) ⟨by decide, by decide⟩ ⟨Nat.zero_le _, Nat.zero_le _⟩ hf (fun r1 σ2 _ hf H locs hw => ?_)
  refine r_if_eq (tgt := 18) X dX12_status_6 (by decide) hf (fun hc hf => ?_) (fun hc hf => ?_)
  · refine lv_iconst (v := mI (-1)) hx hb dX12_status_18 rfl ?_
    exact w_X12_status_b19 X hw (lv_sub hl [0] rfl) hf
  · refine lv_aload_n hx hb dX12_status_9 rfl (lv_at hl 0 rfl) ?_
    refine r_getr 109 X hw sh_86 fd_12_42 rfl rfl lf_X12_141 dX12_status_10 ?_
    refine lv_iload_n hx hb dX12_status_13 rfl (lv_at hl 1 rfl) ?_
    refine r_iald (6 : Int) rfl X hw sh_109 dX12_status_14 hf (fun hf => ?_)
    refine lv_goto (tgt := 19) hx hb dX12_status_15 (by decide) ?_
    exact w_X12_status_b19 X hw (lv_sub hl [0] rfl) hf
def g_X12_copies_h162 (F : Nat)  : Nat → Int → Int → Int → mMem → mRs
  | 0, _, _, _, _ => none
  | n + 1, x1, x2, x3, σ => if 0 ≤ mw x2 ∧ mw x2 < (22 : Int) then if mw (4 * (σ 117 (mw x2).toNat)) ≤ mw x3 then (some (0, σ)) else (if 0 ≤ mw ((240 * x2) + x3) ∧ mw ((240 * x2) + x3) < (5280 : Int) then if 0 ≤ mw ((240 * x1) + x3) ∧ mw ((240 * x1) + x3) < (5280 : Int) then mlm (mup σ 118 (mw ((240 * x1) + x3)).toNat (σ 118 (mw ((240 * x2) + x3)).toNat)) (fun σ209 => (g_X12_copies_h162 F n) x1 x2 (x3 + 1) σ209) else none else none) else none
set_option maxRecDepth 100000 in
set_option maxHeartbeats 4000000 in
theorem w_X12_copies_h162 {p : Program} {l : Launch} {e : Env} {s : State} {m : MethodId} {args : Array Value} {below : List Frame} {meth : Method} {c : Code} {D : va_G} {cy : Nat → ClassId} {ad : Nat → Nat} {bs : Nat} {F : Nat}  (X : mCx p m c cX12_copies 4 s args RX12 meth D cy none)  {r : Int} {σ' : mMem}   (n : Nat) : ∀ {x1 x2 x3 : Int} {σ : mMem} {H : Heap} {locs : List Loc} {ls : Array Slot} (_ : mWd D cy ad bs true mN σ s.heap H locs) (_ : lv_has ls 4 [(0, .ref (ad 86)), (1, .int (mI x1)), (2, .int (mI x2)), (3, .int (mI x3))]) (_ : g_X12_copies_h162 F n x1 x2 x3 σ = some (r, σ')), mGv p l e 1 s m args below meth c D cy ad bs σ' H locs (F0 m 162 ls []) := by
  obtain ⟨⟨hx, hb, -, -, -⟩, -⟩ := id X
  induction n with
  | zero =>
    intro x1 x2 x3 σ H locs ls hw hl hf
    unfold g_X12_copies_h162 at hf
    cases hf
  | succ n ih =>
    have hk162 : ∀ (x1 x2 x3 : Int) (σ : mMem) (H : Heap) (locs : List Loc) (ls : Array Slot), mWd D cy ad bs true mN σ s.heap H locs → lv_has ls 4 [(0, .ref (ad 86)), (1, .int (mI x1)), (2, .int (mI x2)), (3, .int (mI x3))] → g_X12_copies_h162 F n x1 x2 x3 σ = some (r, σ') → mGv p l e 1 s m args below meth c D cy ad bs σ' H locs (F0 m 162 ls []) := fun x1 x2 x3 σ H locs ls hw hl hf => ih hw hl hf
    intro x1 x2 x3 σ H locs ls hw hl hf
    unfold g_X12_copies_h162 at hf
    refine lv_iload_n hx hb dX12_copies_162 rfl (lv_at hl 3 rfl) ?_
    refine lv_iconst (v := mI 4) hx hb dX12_copies_163 rfl ?_
    refine lv_aload_n hx hb dX12_copies_164 rfl (lv_at hl 0 rfl) ?_
    refine r_getr 117 X hw sh_86 fd_12_50 rfl rfl lf_X12_165 dX12_copies_165 ?_
    refine lv_iload_n hx hb dX12_copies_168 rfl (lv_at hl 2 rfl) ?_
    refine r_iald (22 : Int) rfl X hw sh_117 dX12_copies_169 hf (fun hf => ?_)
    refine r_imul X dX12_copies_170 ?_
    refine r_icmp_ge (tgt := 204) X dX12_copies_171 (by decide) hf (fun hc hf => ?_) (fun hc hf => ?_)
    · exact r_vret X hw dX12_copies_204 hf
    · refine lv_aload_n hx hb dX12_copies_174 rfl (lv_at hl 0 rfl) ?_
      refine r_getr 118 X hw sh_86 fd_12_51 rfl rfl lf_X12_168 dX12_copies_175 ?_
      refine lv_sipush (v := mI 240) hx hb dX12_copies_178 (by decide) ?_
      refine lv_iload_n hx hb dX12_copies_181 rfl (lv_at hl 1 rfl) ?_
      refine r_imul X dX12_copies_182 ?_
      refine lv_iload_n hx hb dX12_copies_183 rfl (lv_at hl 3 rfl) ?_
      refine r_iadd X dX12_copies_184 ?_
      refine lv_aload_n hx hb dX12_copies_185 rfl (lv_at hl 0 rfl) ?_
      refine r_getr 118 X hw sh_86 fd_12_51 rfl rfl lf_X12_168 dX12_copies_186 ?_
      refine lv_sipush (v := mI 240) hx hb dX12_copies_189 (by decide) ?_
      refine lv_iload_n hx hb dX12_copies_192 rfl (lv_at hl 2 rfl) ?_
      refine r_imul X dX12_copies_193 ?_
      refine lv_iload_n hx hb dX12_copies_194 rfl (lv_at hl 3 rfl) ?_
      refine r_iadd X dX12_copies_195 ?_
      refine r_iald (5280 : Int) rfl X hw sh_118 dX12_copies_196 hf (fun hf => ?_)
      refine r_iast (5280 : Int) rfl X hw sh_118 dX12_copies_197 hf (fun hf H locs hw => ?_)
      refine r_mem hf hw (fun σ209 hw hf => ?_)
      refine lv_iinc (v := mI (x3 + 1)) (lv' := [(3, .int (mI (x3 + 1))), (0, .ref (ad 86)), (1, .int (mI x1)), (2, .int (mI x2))]) hx hb dX12_copies_198 hl (k := 3) rfl (mI_add _ _) (by decide) rfl (fun ls hl => ?_)
      refine lv_goto (tgt := 162) hx hb dX12_copies_201 (by decide) ?_
      exact hk162 x1 x2 (x3 + 1) σ209 _ _ _ hw (lv_sub hl [1, 2, 3, 0] rfl) hf
def g_X12_copies_h26 (F : Nat)  : Nat → Int → Int → Int → mMem → mRs
  | 0, _, _, _, _ => none
  | n + 1, x1, x2, x3, σ => if mw 6 ≤ mw x3 then (if 0 ≤ mw x2 ∧ mw x2 < (22 : Int) then if 0 ≤ mw x1 ∧ mw x1 < (22 : Int) then mlm (mup σ 117 (mw x1).toNat (σ 117 (mw x2).toNat)) (fun σ103 => g_X12_copies_h162 F F x1 x2 0 σ103) else none else none) else (if 0 ≤ mw ((6 * x2) + x3) ∧ mw ((6 * x2) + x3) < (132 : Int) then if 0 ≤ mw ((6 * x1) + x3) ∧ mw ((6 * x1) + x3) < (132 : Int) then mlm (mup σ 112 (mw ((6 * x1) + x3)).toNat (σ 112 (mw ((6 * x2) + x3)).toNat)) (fun σ104 => if 0 ≤ mw ((6 * x2) + x3) ∧ mw ((6 * x2) + x3) < (132 : Int) then if 0 ≤ mw ((6 * x1) + x3) ∧ mw ((6 * x1) + x3) < (132 : Int) then mlm (mup σ104 113 (mw ((6 * x1) + x3)).toNat (σ104 113 (mw ((6 * x2) + x3)).toNat)) (fun σ105 => if 0 ≤ mw ((6 * x2) + x3) ∧ mw ((6 * x2) + x3) < (132 : Int) then if 0 ≤ mw ((6 * x1) + x3) ∧ mw ((6 * x1) + x3) < (132 : Int) then mlm (mup σ105 114 (mw ((6 * x1) + x3)).toNat (σ105 114 (mw ((6 * x2) + x3)).toNat)) (fun σ106 => if 0 ≤ mw ((6 * x2) + x3) ∧ mw ((6 * x2) + x3) < (132 : Int) then if 0 ≤ mw ((6 * x1) + x3) ∧ mw ((6 * x1) + x3) < (132 : Int) then mlm (mup σ106 115 (mw ((6 * x1) + x3)).toNat (σ106 115 (mw ((6 * x2) + x3)).toNat)) (fun σ107 => if 0 ≤ mw ((6 * x2) + x3) ∧ mw ((6 * x2) + x3) < (132 : Int) then if 0 ≤ mw ((6 * x1) + x3) ∧ mw ((6 * x1) + x3) < (132 : Int) then mlm (mup σ107 116 (mw ((6 * x1) + x3)).toNat (σ107 116 (mw ((6 * x2) + x3)).toNat)) (fun σ108 => (g_X12_copies_h26 F n) x1 x2 (x3 + 1) σ108) else none else none) else none else none) else none else none) else none else none) else none else none)
set_option maxRecDepth 100000 in
set_option maxHeartbeats 4000000 in
theorem w_X12_copies_h26 {p : Program} {l : Launch} {e : Env} {s : State} {m : MethodId} {args : Array Value} {below : List Frame} {meth : Method} {c : Code} {D : va_G} {cy : Nat → ClassId} {ad : Nat → Nat} {bs : Nat} {F : Nat}  (X : mCx p m c cX12_copies 4 s args RX12 meth D cy none)  {r : Int} {σ' : mMem}   (n : Nat) : ∀ {x1 x2 x3 : Int} {σ : mMem} {H : Heap} {locs : List Loc} {ls : Array Slot} (_ : mWd D cy ad bs true mN σ s.heap H locs) (_ : lv_has ls 4 [(0, .ref (ad 86)), (1, .int (mI x1)), (2, .int (mI x2)), (3, .int (mI x3))]) (_ : g_X12_copies_h26 F n x1 x2 x3 σ = some (r, σ')), mGv p l e 1 s m args below meth c D cy ad bs σ' H locs (F0 m 26 ls []) := by
  obtain ⟨⟨hx, hb, -, -, -⟩, -⟩ := id X
  induction n with
  | zero =>
    intro x1 x2 x3 σ H locs ls hw hl hf
    unfold g_X12_copies_h26 at hf
    cases hf
  | succ n ih =>
    have hk26 : ∀ (x1 x2 x3 : Int) (σ : mMem) (H : Heap) (locs : List Loc) (ls : Array Slot), mWd D cy ad bs true mN σ s.heap H locs → lv_has ls 4 [(0, .ref (ad 86)), (1, .int (mI x1)), (2, .int (mI x2)), (3, .int (mI x3))] → g_X12_copies_h26 F n x1 x2 x3 σ = some (r, σ') → mGv p l e 1 s m args below meth c D cy ad bs σ' H locs (F0 m 26 ls []) := fun x1 x2 x3 σ H locs ls hw hl hf => ih hw hl hf
    intro x1 x2 x3 σ H locs ls hw hl hf
    unfold g_X12_copies_h26 at hf
    refine lv_iload_n hx hb dX12_copies_26 rfl (lv_at hl 3 rfl) ?_
    refine lv_bipush (v := mI 6) hx hb dX12_copies_27 (by decide) ?_
    refine r_icmp_ge (tgt := 148) X dX12_copies_29 (by decide) hf (fun hc hf => ?_) (fun hc hf => ?_)
    · refine lv_aload_n hx hb dX12_copies_148 rfl (lv_at hl 0 rfl) ?_
      refine r_getr 117 X hw sh_86 fd_12_50 rfl rfl lf_X12_165 dX12_copies_149 ?_
      refine lv_iload_n hx hb dX12_copies_152 rfl (lv_at hl 1 rfl) ?_
      refine lv_aload_n hx hb dX12_copies_153 rfl (lv_at hl 0 rfl) ?_
      refine r_getr 117 X hw sh_86 fd_12_50 rfl rfl lf_X12_165 dX12_copies_154 ?_
      refine lv_iload_n hx hb dX12_copies_157 rfl (lv_at hl 2 rfl) ?_
      refine r_iald (22 : Int) rfl X hw sh_117 dX12_copies_158 hf (fun hf => ?_)
      refine r_iast (22 : Int) rfl X hw sh_117 dX12_copies_159 hf (fun hf H locs hw => ?_)
      refine r_mem hf hw (fun σ103 hw hf => ?_)
      refine lv_iconst (v := mI 0) hx hb dX12_copies_160 rfl ?_
      refine lv_istore_n (lv' := [(3, .int (mI 0)), (0, .ref (ad 86)), (1, .int (mI x1)), (2, .int (mI x2))]) hx hb dX12_copies_161 rfl hl (by decide) rfl (fun ls hl => ?_)
      exact w_X12_copies_h162 X _ hw (lv_sub hl [1, 2, 3, 0] rfl) hf
    · refine lv_aload_n hx hb dX12_copies_32 rfl (lv_at hl 0 rfl) ?_
      refine r_getr 112 X hw sh_86 fd_12_45 rfl rfl lf_X12_150 dX12_copies_33 ?_
      refine lv_bipush (v := mI 6) hx hb dX12_copies_36 (by decide) ?_
      refine lv_iload_n hx hb dX12_copies_38 rfl (lv_at hl 1 rfl) ?_
      refine r_imul X dX12_copies_39 ?_
      refine lv_iload_n hx hb dX12_copies_40 rfl (lv_at hl 3 rfl) ?_
      refine r_iadd X dX12_copies_41 ?_
      refine lv_aload_n hx hb dX12_copies_42 rfl (lv_at hl 0 rfl) ?_
      refine r_getr 112 X hw sh_86 fd_12_45 rfl rfl lf_X12_150 dX12_copies_43 ?_
      refine lv_bipush (v := mI 6) hx hb dX12_copies_46 (by decide) ?_
      refine lv_iload_n hx hb dX12_copies_48 rfl (lv_at hl 2 rfl) ?_
      refine r_imul X dX12_copies_49 ?_
      refine lv_iload_n hx hb dX12_copies_50 rfl (lv_at hl 3 rfl) ?_
      refine r_iadd X dX12_copies_51 ?_
      refine r_iald (132 : Int) rfl X hw sh_112 dX12_copies_52 hf (fun hf => ?_)
      refine r_iast (132 : Int) rfl X hw sh_112 dX12_copies_53 hf (fun hf H locs hw => ?_)
      refine r_mem hf hw (fun σ104 hw hf => ?_)
      refine lv_aload_n hx hb dX12_copies_54 rfl (lv_at hl 0 rfl) ?_
      refine r_getr 113 X hw sh_86 fd_12_46 rfl rfl lf_X12_153 dX12_copies_55 ?_
      refine lv_bipush (v := mI 6) hx hb dX12_copies_58 (by decide) ?_
      refine lv_iload_n hx hb dX12_copies_60 rfl (lv_at hl 1 rfl) ?_
      refine r_imul X dX12_copies_61 ?_
      refine lv_iload_n hx hb dX12_copies_62 rfl (lv_at hl 3 rfl) ?_
      refine r_iadd X dX12_copies_63 ?_
      refine lv_aload_n hx hb dX12_copies_64 rfl (lv_at hl 0 rfl) ?_
      refine r_getr 113 X hw sh_86 fd_12_46 rfl rfl lf_X12_153 dX12_copies_65 ?_
      refine lv_bipush (v := mI 6) hx hb dX12_copies_68 (by decide) ?_
      refine lv_iload_n hx hb dX12_copies_70 rfl (lv_at hl 2 rfl) ?_
      refine r_imul X dX12_copies_71 ?_
      refine lv_iload_n hx hb dX12_copies_72 rfl (lv_at hl 3 rfl) ?_
      refine r_iadd X dX12_copies_73 ?_
      refine r_iald (132 : Int) rfl X hw sh_113 dX12_copies_74 hf (fun hf => ?_)
      refine r_iast (132 : Int) rfl X hw sh_113 dX12_copies_75 hf (fun hf H locs hw => ?_)
      refine r_mem hf hw (fun σ105 hw hf => ?_)
      refine lv_aload_n hx hb dX12_copies_76 rfl (lv_at hl 0 rfl) ?_
      refine r_getr 114 X hw sh_86 fd_12_47 rfl rfl lf_X12_156 dX12_copies_77 ?_
      refine lv_bipush (v := mI 6) hx hb dX12_copies_80 (by decide) ?_
      refine lv_iload_n hx hb dX12_copies_82 rfl (lv_at hl 1 rfl) ?_
      refine r_imul X dX12_copies_83 ?_
      refine lv_iload_n hx hb dX12_copies_84 rfl (lv_at hl 3 rfl) ?_
      refine r_iadd X dX12_copies_85 ?_
      refine lv_aload_n hx hb dX12_copies_86 rfl (lv_at hl 0 rfl) ?_
      refine r_getr 114 X hw sh_86 fd_12_47 rfl rfl lf_X12_156 dX12_copies_87 ?_
      refine lv_bipush (v := mI 6) hx hb dX12_copies_90 (by decide) ?_
      refine lv_iload_n hx hb dX12_copies_92 rfl (lv_at hl 2 rfl) ?_
      refine r_imul X dX12_copies_93 ?_
      refine lv_iload_n hx hb dX12_copies_94 rfl (lv_at hl 3 rfl) ?_
      refine r_iadd X dX12_copies_95 ?_
      refine r_iald (132 : Int) rfl X hw sh_114 dX12_copies_96 hf (fun hf => ?_)
      refine r_iast (132 : Int) rfl X hw sh_114 dX12_copies_97 hf (fun hf H locs hw => ?_)
      refine r_mem hf hw (fun σ106 hw hf => ?_)
      refine lv_aload_n hx hb dX12_copies_98 rfl (lv_at hl 0 rfl) ?_
      refine r_getr 115 X hw sh_86 fd_12_48 rfl rfl lf_X12_159 dX12_copies_99 ?_
      refine lv_bipush (v := mI 6) hx hb dX12_copies_102 (by decide) ?_
      refine lv_iload_n hx hb dX12_copies_104 rfl (lv_at hl 1 rfl) ?_
      refine r_imul X dX12_copies_105 ?_
      refine lv_iload_n hx hb dX12_copies_106 rfl (lv_at hl 3 rfl) ?_
      refine r_iadd X dX12_copies_107 ?_
      refine lv_aload_n hx hb dX12_copies_108 rfl (lv_at hl 0 rfl) ?_
      refine r_getr 115 X hw sh_86 fd_12_48 rfl rfl lf_X12_159 dX12_copies_109 ?_
      refine lv_bipush (v := mI 6) hx hb dX12_copies_112 (by decide) ?_
      refine lv_iload_n hx hb dX12_copies_114 rfl (lv_at hl 2 rfl) ?_
      refine r_imul X dX12_copies_115 ?_
      refine lv_iload_n hx hb dX12_copies_116 rfl (lv_at hl 3 rfl) ?_
      refine r_iadd X dX12_copies_117 ?_
      refine r_iald (132 : Int) rfl X hw sh_115 dX12_copies_118 hf (fun hf => ?_)
      refine r_iast (132 : Int) rfl X hw sh_115 dX12_copies_119 hf (fun hf H locs hw => ?_)
      refine r_mem hf hw (fun σ107 hw hf => ?_)
      refine lv_aload_n hx hb dX12_copies_120 rfl (lv_at hl 0 rfl) ?_
      refine r_getr 116 X hw sh_86 fd_12_49 rfl rfl lf_X12_162 dX12_copies_121 ?_
      refine lv_bipush (v := mI 6) hx hb dX12_copies_124 (by decide) ?_
      refine lv_iload_n hx hb dX12_copies_126 rfl (lv_at hl 1 rfl) ?_
      refine r_imul X dX12_copies_127 ?_
      refine lv_iload_n hx hb dX12_copies_128 rfl (lv_at hl 3 rfl) ?_
      refine r_iadd X dX12_copies_129 ?_
      refine lv_aload_n hx hb dX12_copies_130 rfl (lv_at hl 0 rfl) ?_
      refine r_getr 116 X hw sh_86 fd_12_49 rfl rfl lf_X12_162 dX12_copies_131 ?_
      refine lv_bipush (v := mI 6) hx hb dX12_copies_134 (by decide) ?_
      refine lv_iload_n hx hb dX12_copies_136 rfl (lv_at hl 2 rfl) ?_
      refine r_imul X dX12_copies_137 ?_
      refine lv_iload_n hx hb dX12_copies_138 rfl (lv_at hl 3 rfl) ?_
      refine r_iadd X dX12_copies_139 ?_
      refine r_iald (132 : Int) rfl X hw sh_116 dX12_copies_140 hf (fun hf => ?_)
      refine r_iast (132 : Int) rfl X hw sh_116 dX12_copies_141 hf (fun hf H locs hw => ?_)
      refine r_mem hf hw (fun σ108 hw hf => ?_)
      refine lv_iinc (v := mI (x3 + 1)) (lv' := [(3, .int (mI (x3 + 1))), (0, .ref (ad 86)), (1, .int (mI x1)), (2, .int (mI x2))]) hx hb dX12_copies_142 hl (k := 3) rfl (mI_add _ _) (by decide) rfl (fun ls hl => ?_)
      refine lv_goto (tgt := 26) hx hb dX12_copies_145 (by decide) ?_
      exact hk26 x1 x2 (x3 + 1) σ108 _ _ _ hw (lv_sub hl [1, 2, 3, 0] rfl) hf
def g_X12_copies (F : Nat) (x1 x2 : Int) (σ : mMem) : mRs := if 0 ≤ mw x2 ∧ mw x2 < (22 : Int) then if 0 ≤ mw x1 ∧ mw x1 < (22 : Int) then mlm (mup σ 110 (mw x1).toNat (σ 110 (mw x2).toNat)) (fun σ1 => if 0 ≤ mw x2 ∧ mw x2 < (22 : Int) then if 0 ≤ mw x1 ∧ mw x1 < (22 : Int) then mlm (mup σ1 111 (mw x1).toNat (σ1 111 (mw x2).toNat)) (fun σ2 => g_X12_copies_h26 F F x1 x2 0 σ2) else none else none) else none else none
set_option maxRecDepth 100000 in
set_option maxHeartbeats 4000000 in
theorem c_X12_copies (l : Launch) (D : va_G) (cy : Nat → ClassId) (ad : Nat → Nat) (bs : Nat) (F : Nat)  (x1 x2 : Int) (σ : mMem) (r : Int) (σ' : mMem)  (hf : g_X12_copies F x1 x2 σ = some (r, σ')) : mCv l D cy ad bs yX12_copies cX12_copies 4 none 1 [.ref (ad 86), .int (mI x1), .int (mI x2)] σ σ' := by
  refine mCv.of (lv := [(0, .ref (ad 86)), (1, .int (mI x1)), (2, .int (mI x2))]) km_X12_copies.2.2.2.2.2 (Nat.le_of_ble_eq_true rfl) rfl (fun p e s m args below meth c H locs ls X hw hl => ?_)
  obtain ⟨⟨hx, hb, -, -, -⟩, -⟩ := id X
  unfold g_X12_copies at hf
  refine lv_aload_n hx hb dX12_copies_0 rfl (lv_at hl 0 rfl) ?_
  refine r_getr 110 X hw sh_86 fd_12_43 rfl rfl lf_X12_144 dX12_copies_1 ?_
  refine lv_iload_n hx hb dX12_copies_4 rfl (lv_at hl 1 rfl) ?_
  refine lv_aload_n hx hb dX12_copies_5 rfl (lv_at hl 0 rfl) ?_
  refine r_getr 110 X hw sh_86 fd_12_43 rfl rfl lf_X12_144 dX12_copies_6 ?_
  refine lv_iload_n hx hb dX12_copies_9 rfl (lv_at hl 2 rfl) ?_
  refine r_iald (22 : Int) rfl X hw sh_110 dX12_copies_10 hf (fun hf => ?_)
  refine r_iast (22 : Int) rfl X hw sh_110 dX12_copies_11 hf (fun hf H locs hw => ?_)
  refine r_mem hf hw (fun σ1 hw hf => ?_)
  refine lv_aload_n hx hb dX12_copies_12 rfl (lv_at hl 0 rfl) ?_
  refine r_getr 111 X hw sh_86 fd_12_44 rfl rfl lf_X12_147 dX12_copies_13 ?_
  refine lv_iload_n hx hb dX12_copies_16 rfl (lv_at hl 1 rfl) ?_
  refine lv_aload_n hx hb dX12_copies_17 rfl (lv_at hl 0 rfl) ?_
  refine r_getr 111 X hw sh_86 fd_12_44 rfl rfl lf_X12_147 dX12_copies_18 ?_
  refine lv_iload_n hx hb dX12_copies_21 rfl (lv_at hl 2 rfl) ?_
  refine r_iald (22 : Int) rfl X hw sh_111 dX12_copies_22 hf (fun hf => ?_)
  refine r_iast (22 : Int) rfl X hw sh_111 dX12_copies_23 hf (fun hf H locs hw => ?_)
  refine r_mem hf hw (fun σ2 hw hf => ?_)
  refine lv_iconst (v := mI 0) hx hb dX12_copies_24 rfl ?_
  refine lv_istore_n (lv' := [(3, .int (mI 0)), (0, .ref (ad 86)), (1, .int (mI x1)), (2, .int (mI x2))]) hx hb dX12_copies_25 rfl hl (by decide) rfl (fun ls hl => ?_)
  exact w_X12_copies_h26 X _ hw (lv_sub hl [1, 2, 3, 0] rfl) hf
def g_X12_slot (F : Nat) (x1 : Int) (σ : mMem) : mRs := if mw 20 = 0 then none else (some (2 + ((mw ((σ 86 52) + x1)).tmod (mw 20)), σ))
set_option maxRecDepth 100000 in
set_option maxHeartbeats 4000000 in
theorem c_X12_slot (l : Launch) (D : va_G) (cy : Nat → ClassId) (ad : Nat → Nat) (bs : Nat) (F : Nat)  (x1 : Int) (σ : mMem) (r : Int) (σ' : mMem)  (hf : g_X12_slot F x1 σ = some (r, σ')) : mCi l D cy ad bs yX12_slot cX12_slot 2 (some .int) 1 [.ref (ad 86), .int (mI x1)] σ r σ' := by
  refine mCi.of (lv := [(0, .ref (ad 86)), (1, .int (mI x1))]) km_X12_slot.2.2.2.2.2 (Nat.le_of_ble_eq_true rfl) rfl (fun p e s m args below meth c H locs ls X hw hl => ?_)
  obtain ⟨⟨hx, hb, -, -, -⟩, -⟩ := id X
  unfold g_X12_slot at hf
  refine lv_iconst (v := mI 2) hx hb dX12_slot_0 rfl ?_
  refine lv_aload_n hx hb dX12_slot_1 rfl (lv_at hl 0 rfl) ?_
  refine r_geti X hw sh_86 fd_12_52 rfl lf_X12_171 dX12_slot_2 ?_
  refine lv_iload_n hx hb dX12_slot_5 rfl (lv_at hl 1 rfl) ?_
  refine r_iadd X dX12_slot_6 ?_
  refine lv_bipush (v := mI 20) hx hb dX12_slot_7 (by decide) ?_
  refine r_irem X dX12_slot_9 hf (fun hf => ?_)
  refine r_iadd X dX12_slot_10 ?_
  exact r_iret X hw dX12_slot_11 hf
def g_X12_keeps_b32 (F : Nat)  (σ : mMem) : mRs := mob (g_X12_slot F (σ 86 53) σ) (fun r103 σ104 => mob (g_X12_copies F r103 0 σ104) (fun r105 σ106 => mlm (mup σ106 86 53 ((σ106 86 53) + 1)) (fun σ107 => some (0, σ107))))
set_option maxRecDepth 100000 in
set_option maxHeartbeats 4000000 in
theorem w_X12_keeps_b32 {p : Program} {l : Launch} {e : Env} {s : State} {m : MethodId} {args : Array Value} {below : List Frame} {meth : Method} {c : Code} {D : va_G} {cy : Nat → ClassId} {ad : Nat → Nat} {bs : Nat} {F : Nat}  (X : mCx p m c cX12_keeps 1 s args RX12 meth D cy none)  {r : Int} {σ' : mMem}    {σ : mMem} {H : Heap} {locs : List Loc} {ls : Array Slot} (hw : mWd D cy ad bs true mN σ s.heap H locs) (hl : lv_has ls 1 [(0, .ref (ad 86))]) (hf : g_X12_keeps_b32 F  σ = some (r, σ')) : mGv p l e 2 s m args below meth c D cy ad bs σ' H locs (F0 m 32 ls []) := by
  obtain ⟨⟨hx, hb, -, -, -⟩, -⟩ := id X
  unfold g_X12_keeps_b32 at hf
  refine lv_aload_n hx hb dX12_keeps_32 rfl (lv_at hl 0 rfl) ?_
  refine lv_aload_n hx hb dX12_keeps_33 rfl (lv_at hl 0 rfl) ?_
  refine lv_aload_n hx hb dX12_keeps_34 rfl (lv_at hl 0 rfl) ?_
  refine r_geti X hw sh_86 fd_12_53 rfl lf_X12_174 dX12_keeps_35 ?_
  refine r_cvi (rest := [.ref (ad 86)]) [.int (mI (σ 86 53))] X hw (fun ra σa h => c_X12_slot l D cy ad bs F (σ 86 53) σ ra σa  h) sh_86 rfl (by decide) rfl km_X12_slot kv_X12_slot lm_X12_418 dX12_keeps_38 hl.1 rfl rfl (Nat.le_of_ble_eq_true rfl) ⟨by decide, by decide⟩ ⟨Nat.zero_le _, Nat.zero_le _⟩ hf (fun r103 σ104 _ hf H locs hw => ?_)
  refine lv_iconst (v := mI 0) hx hb dX12_keeps_41 rfl ?_
  refine r_cvv (rest := []) [.int (mI r103), .int (mI 0)] X hw (fun ra σa h => c_X12_copies l D cy ad bs F r103 0 σ104 ra σa  h) sh_86 rfl (by decide) rfl km_X12_copies kv_X12_copies lm_X12_421 dX12_keeps_42 hl.1 rfl rfl (Nat.le_of_ble_eq_true rfl) ⟨by decide, by decide⟩ ⟨Nat.zero_le _, Nat.zero_le _⟩ hf (fun r105 σ106 _ hf H locs hw => ?_)
  refine lv_aload_n hx hb dX12_keeps_45 rfl (lv_at hl 0 rfl) ?_
  refine lv_dup hx hb dX12_keeps_46 rfl ?_
  refine r_geti X hw sh_86 fd_12_53 rfl lf_X12_174 dX12_keeps_47 ?_
  refine lv_iconst (v := mI 1) hx hb dX12_keeps_50 rfl ?_
  refine r_iadd X dX12_keeps_51 ?_
  refine r_puti X hw sh_86 fd_12_53 fp_12_53 rfl rfl lf_X12_174 dX12_keeps_52 (fun H locs hw => ?_)
  refine r_mem hf hw (fun σ107 hw hf => ?_)
  exact r_vret X hw dX12_keeps_55 hf
def g_X12_keeps (F : Nat) (σ : mMem) : mRs := if ¬ mw (σ 86 53) = mw 20 then (g_X12_keeps_b32 F σ) else (if mw 20 = 0 then none else (mlm (mup σ 86 52 ((mw ((σ 86 52) + 1)).tmod (mw 20))) (fun σ1 => mlm (mup σ1 86 53 ((σ1 86 53) - 1)) (fun σ2 => g_X12_keeps_b32 F σ2))))
set_option maxRecDepth 100000 in
set_option maxHeartbeats 4000000 in
theorem c_X12_keeps (l : Launch) (D : va_G) (cy : Nat → ClassId) (ad : Nat → Nat) (bs : Nat) (F : Nat)   (σ : mMem) (r : Int) (σ' : mMem)  (hf : g_X12_keeps F  σ = some (r, σ')) : mCv l D cy ad bs yX12_keeps cX12_keeps 1 none 2 [.ref (ad 86)] σ σ' := by
  refine mCv.of (lv := [(0, .ref (ad 86))]) km_X12_keeps.2.2.2.2.2 (Nat.le_of_ble_eq_true rfl) rfl (fun p e s m args below meth c H locs ls X hw hl => ?_)
  obtain ⟨⟨hx, hb, -, -, -⟩, -⟩ := id X
  unfold g_X12_keeps at hf
  refine lv_aload_n hx hb dX12_keeps_0 rfl (lv_at hl 0 rfl) ?_
  refine r_geti X hw sh_86 fd_12_53 rfl lf_X12_174 dX12_keeps_1 ?_
  refine lv_bipush (v := mI 20) hx hb dX12_keeps_4 (by decide) ?_
  refine r_icmp_ne (tgt := 32) X dX12_keeps_6 (by decide) hf (fun hc hf => ?_) (fun hc hf => ?_)
  · exact w_X12_keeps_b32 X hw (lv_sub hl [0] rfl) hf
  · refine lv_aload_n hx hb dX12_keeps_9 rfl (lv_at hl 0 rfl) ?_
    refine lv_aload_n hx hb dX12_keeps_10 rfl (lv_at hl 0 rfl) ?_
    refine r_geti X hw sh_86 fd_12_52 rfl lf_X12_171 dX12_keeps_11 ?_
    refine lv_iconst (v := mI 1) hx hb dX12_keeps_14 rfl ?_
    refine r_iadd X dX12_keeps_15 ?_
    refine lv_bipush (v := mI 20) hx hb dX12_keeps_16 (by decide) ?_
    refine r_irem X dX12_keeps_18 hf (fun hf => ?_)
    refine r_puti X hw sh_86 fd_12_52 fp_12_52 rfl rfl lf_X12_171 dX12_keeps_19 (fun H locs hw => ?_)
    refine r_mem hf hw (fun σ1 hw hf => ?_)
    refine lv_aload_n hx hb dX12_keeps_22 rfl (lv_at hl 0 rfl) ?_
    refine lv_dup hx hb dX12_keeps_23 rfl ?_
    refine r_geti X hw sh_86 fd_12_53 rfl lf_X12_174 dX12_keeps_24 ?_
    refine lv_iconst (v := mI 1) hx hb dX12_keeps_27 rfl ?_
    refine r_isub X dX12_keeps_28 ?_
    refine r_puti X hw sh_86 fd_12_53 fp_12_53 rfl rfl lf_X12_174 dX12_keeps_29 (fun H locs hw => ?_)
    refine r_mem hf hw (fun σ2 hw hf => ?_)
    exact w_X12_keeps_b32 X hw (lv_sub hl [0] rfl) hf
def g_X12_undo_b20 (F : Nat)  (t0 : Int) (σ : mMem) : mRs := if mw t0 = 0 ∨ mw t0 = 1 then some (t0, σ) else none
set_option maxRecDepth 100000 in
set_option maxHeartbeats 4000000 in
theorem w_X12_undo_b20 {p : Program} {l : Launch} {e : Env} {s : State} {m : MethodId} {args : Array Value} {below : List Frame} {meth : Method} {c : Code} {D : va_G} {cy : Nat → ClassId} {ad : Nat → Nat} {bs : Nat} {F : Nat}  (X : mCx p m c cX12_undo 1 s args RX12 meth D cy (some .boolean))  {r : Int} {σ' : mMem}   {t0 : Int} {σ : mMem} {H : Heap} {locs : List Loc} {ls : Array Slot} (hw : mWd D cy ad bs true mN σ s.heap H locs) (hl : lv_has ls 1 [(0, .ref (ad 86))]) (hf : g_X12_undo_b20 F t0 σ = some (r, σ')) : mGi p l e 2 s m args below meth c D cy ad bs r σ' H locs (F0 m 20 ls [.int (mI t0)]) := by
  obtain ⟨⟨hx, hb, -, -, -⟩, -⟩ := id X
  unfold g_X12_undo_b20 at hf
  exact r_zret X hw dX12_undo_20 hf
def g_X12_undo (F : Nat) (σ : mMem) : mRs := if ¬ mw (σ 86 53) = 0 then (mlm (mup σ 86 53 ((σ 86 53) - 1)) (fun σ1 => mob (g_X12_slot F (σ1 86 53) σ1) (fun r2 σ3 => mob (g_X12_copies F 0 r2 σ3) (fun r4 σ5 => if mw 1 = 0 ∨ mw 1 = 1 then some (1, σ5) else none)))) else (mob (g_X12_refuses F 4 σ) (fun r6 σ7 => if mw r6 < 0 then (g_X12_undo_b20 F 0 σ7) else (g_X12_undo_b20 F 1 σ7)))
set_option maxRecDepth 100000 in
set_option maxHeartbeats 4000000 in
theorem c_X12_undo (l : Launch) (D : va_G) (cy : Nat → ClassId) (ad : Nat → Nat) (bs : Nat) (F : Nat)   (σ : mMem) (r : Int) (σ' : mMem)  (hf : g_X12_undo F  σ = some (r, σ')) : mCi l D cy ad bs yX12_undo cX12_undo 1 (some .boolean) 2 [.ref (ad 86)] σ r σ' := by
  refine mCi.of (lv := [(0, .ref (ad 86))]) km_X12_undo.2.2.2.2.2 (Nat.le_of_ble_eq_true rfl) rfl (fun p e s m args below meth c H locs ls X hw hl => ?_)
  obtain ⟨⟨hx, hb, -, -, -⟩, -⟩ := id X
  unfold g_X12_undo at hf
  refine lv_aload_n hx hb dX12_undo_0 rfl (lv_at hl 0 rfl) ?_
  refine r_geti X hw sh_86 fd_12_53 rfl lf_X12_174 dX12_undo_1 ?_
  refine r_if_ne (tgt := 21) X dX12_undo_4 (by decide) hf (fun hc hf => ?_) (fun hc hf => ?_)
  · refine lv_aload_n hx hb dX12_undo_21 rfl (lv_at hl 0 rfl) ?_
    refine lv_dup hx hb dX12_undo_22 rfl ?_
    refine r_geti X hw sh_86 fd_12_53 rfl lf_X12_174 dX12_undo_23 ?_
    refine lv_iconst (v := mI 1) hx hb dX12_undo_26 rfl ?_
    refine r_isub X dX12_undo_27 ?_
    refine r_puti X hw sh_86 fd_12_53 fp_12_53 rfl rfl lf_X12_174 dX12_undo_28 (fun H locs hw => ?_)
    refine r_mem hf hw (fun σ1 hw hf => ?_)
    refine lv_aload_n hx hb dX12_undo_31 rfl (lv_at hl 0 rfl) ?_
    refine lv_iconst (v := mI 0) hx hb dX12_undo_32 rfl ?_
    refine lv_aload_n hx hb dX12_undo_33 rfl (lv_at hl 0 rfl) ?_
    refine lv_aload_n hx hb dX12_undo_34 rfl (lv_at hl 0 rfl) ?_
    refine r_geti X hw sh_86 fd_12_53 rfl lf_X12_174 dX12_undo_35 ?_
    refine r_cvi (rest := [.int (mI 0), .ref (ad 86)]) [.int (mI (σ1 86 53))] X hw (fun ra σa h => c_X12_slot l D cy ad bs F (σ1 86 53) σ1 ra σa  h) sh_86 rfl (by decide) rfl km_X12_slot kv_X12_slot lm_X12_418 dX12_undo_38 hl.1 rfl rfl (Nat.le_of_ble_eq_true rfl) ⟨by decide, by decide⟩ ⟨Nat.zero_le _, Nat.zero_le _⟩ hf (fun r2 σ3 _ hf H locs hw => ?_)
    refine r_cvv (rest := []) [.int (mI 0), .int (mI r2)] X hw (fun ra σa h => c_X12_copies l D cy ad bs F 0 r2 σ3 ra σa  h) sh_86 rfl (by decide) rfl km_X12_copies kv_X12_copies lm_X12_421 dX12_undo_41 hl.1 rfl rfl (Nat.le_of_ble_eq_true rfl) ⟨by decide, by decide⟩ ⟨Nat.zero_le _, Nat.zero_le _⟩ hf (fun r4 σ5 _ hf H locs hw => ?_)
    refine lv_iconst (v := mI 1) hx hb dX12_undo_44 rfl ?_
    exact r_zret X hw dX12_undo_45 hf
  · refine lv_aload_n hx hb dX12_undo_7 rfl (lv_at hl 0 rfl) ?_
    refine lv_iconst (v := mI 4) hx hb dX12_undo_8 rfl ?_
    refine r_cvi (rest := []) [.int (mI 4)] X hw (fun ra σa h => c_X12_refuses l D cy ad bs F 4 σ ra σa  h) sh_86 rfl (by decide) rfl km_X12_refuses kv_X12_refuses lm_X12_235 dX12_undo_9 hl.1 rfl rfl (Nat.le_of_ble_eq_true rfl) ⟨by decide, by decide⟩ ⟨Nat.zero_le _, Nat.zero_le _⟩ hf (fun r6 σ7 _ hf H locs hw => ?_)
    refine r_if_lt (tgt := 19) X dX12_undo_12 (by decide) hf (fun hc hf => ?_) (fun hc hf => ?_)
    · refine lv_iconst (v := mI 0) hx hb dX12_undo_19 rfl ?_
      exact w_X12_undo_b20 X hw (lv_sub hl [0] rfl) hf
    · refine lv_iconst (v := mI 1) hx hb dX12_undo_15 rfl ?_
      refine lv_goto (tgt := 20) hx hb dX12_undo_16 (by decide) ?_
      exact w_X12_undo_b20 X hw (lv_sub hl [0] rfl) hf
def g_X12_held_b29 (F : Nat)  (t0 : Int) (σ : mMem) : mRs := some (t0, σ)
set_option maxRecDepth 100000 in
set_option maxHeartbeats 4000000 in
theorem w_X12_held_b29 {p : Program} {l : Launch} {e : Env} {s : State} {m : MethodId} {args : Array Value} {below : List Frame} {meth : Method} {c : Code} {D : va_G} {cy : Nat → ClassId} {ad : Nat → Nat} {bs : Nat} {F : Nat}  (X : mCx p m c cX12_held 2 s args RX12 meth D cy (some .long))  {r : Int} {σ' : mMem}   {t0 : Int} {σ : mMem} {H : Heap} {locs : List Loc} {ls : Array Slot} (hw : mWd D cy ad bs true mN σ s.heap H locs) (hl : lv_has ls 2 []) (hf : g_X12_held_b29 F t0 σ = some (r, σ')) : mGl p l e 1 s m args below meth c D cy ad bs r σ' H locs (F0 m 29 ls [.long (mL t0)]) := by
  obtain ⟨⟨hx, hb, -, -, -⟩, -⟩ := id X
  unfold g_X12_held_b29 at hf
  exact r_lret X hw dX12_held_29 hf
def g_X12_held (F : Nat) (x0 : Int) (σ : mMem) : mRs := if mwl x0 ≤ mwl 1000000 then (if mwl (-1000000) ≤ mwl x0 then (g_X12_held_b29 F x0 σ) else (g_X12_held_b29 F (-1000000) σ)) else (g_X12_held_b29 F 1000000 σ)
set_option maxRecDepth 100000 in
set_option maxHeartbeats 4000000 in
theorem c_X12_held (l : Launch) (D : va_G) (cy : Nat → ClassId) (ad : Nat → Nat) (bs : Nat) (F : Nat)  (x0 : Int) (σ : mMem) (r : Int) (σ' : mMem)  (hf : g_X12_held F x0 σ = some (r, σ')) : mCl l D cy ad bs yX12_held cX12_held 2 (some .long) 1 [.long (mL x0)] σ r σ' := by
  refine mCl.of (lv := [(0, .long (mL x0))]) km_X12_held.2.2.2.2.2 (Nat.le_of_ble_eq_true rfl) rfl (fun p e s m args below meth c H locs ls X hw hl => ?_)
  obtain ⟨⟨hx, hb, -, -, -⟩, -⟩ := id X
  unfold g_X12_held at hf
  refine lv_lload_n hx hb dX12_held_0 rfl (lv_at hl 0 rfl) ?_
  refine r_ldc2 (z := 1000000) (by decide) X lc_X12_424 dX12_held_1 ?_
  refine r_lcmp_le (tgt := 14) X dX12_held_4 dX12_held_5 (by decide) hf (fun hc hf => ?_) (fun hc hf => ?_)
  · refine lv_lload_n hx hb dX12_held_14 rfl (lv_at hl 0 rfl) ?_
    refine r_ldc2 (z := (-1000000)) (by decide) X lc_X12_426 dX12_held_15 ?_
    refine r_lcmp_ge (tgt := 28) X dX12_held_18 dX12_held_19 (by decide) hf (fun hc hf => ?_) (fun hc hf => ?_)
    · refine lv_lload_n hx hb dX12_held_28 rfl (lv_at hl 0 rfl) ?_
      exact w_X12_held_b29 X hw (lv_sub hl [] rfl) hf
    · refine r_ldc2 (z := (-1000000)) (by decide) X lc_X12_426 dX12_held_22 ?_
      refine lv_goto (tgt := 29) hx hb dX12_held_25 (by decide) ?_
      exact w_X12_held_b29 X hw (lv_sub hl [] rfl) hf
  · refine r_ldc2 (z := 1000000) (by decide) X lc_X12_424 dX12_held_8 ?_
    refine lv_goto (tgt := 29) hx hb dX12_held_11 (by decide) ?_
    exact w_X12_held_b29 X hw (lv_sub hl [] rfl) hf
def g_X12_floor_b55 (F : Nat)  (t0 : Int) (σ : mMem) : mRs := some (t0, σ)
set_option maxRecDepth 100000 in
set_option maxHeartbeats 4000000 in
theorem w_X12_floor_b55 {p : Program} {l : Launch} {e : Env} {s : State} {m : MethodId} {args : Array Value} {below : List Frame} {meth : Method} {c : Code} {D : va_G} {cy : Nat → ClassId} {ad : Nat → Nat} {bs : Nat} {F : Nat}  (X : mCx p m c cX12_floor 6 s args RX12 meth D cy (some .long))  {r : Int} {σ' : mMem}   {t0 : Int} {σ : mMem} {H : Heap} {locs : List Loc} {ls : Array Slot} (hw : mWd D cy ad bs true mN σ s.heap H locs) (hl : lv_has ls 6 []) (hf : g_X12_floor_b55 F t0 σ = some (r, σ')) : mGl p l e 1 s m args below meth c D cy ad bs r σ' H locs (F0 m 55 ls [.long (mL t0)]) := by
  obtain ⟨⟨hx, hb, -, -, -⟩, -⟩ := id X
  unfold g_X12_floor_b55 at hf
  exact r_lret X hw dX12_floor_55 hf
def g_X12_floor_b53 (F : Nat)  (x4 : Int) (σ : mMem) : mRs := g_X12_floor_b55 F x4 σ
set_option maxRecDepth 100000 in
set_option maxHeartbeats 4000000 in
theorem w_X12_floor_b53 {p : Program} {l : Launch} {e : Env} {s : State} {m : MethodId} {args : Array Value} {below : List Frame} {meth : Method} {c : Code} {D : va_G} {cy : Nat → ClassId} {ad : Nat → Nat} {bs : Nat} {F : Nat}  (X : mCx p m c cX12_floor 6 s args RX12 meth D cy (some .long))  {r : Int} {σ' : mMem}   {x4 : Int} {σ : mMem} {H : Heap} {locs : List Loc} {ls : Array Slot} (hw : mWd D cy ad bs true mN σ s.heap H locs) (hl : lv_has ls 6 [(4, .long (mL x4))]) (hf : g_X12_floor_b53 F x4 σ = some (r, σ')) : mGl p l e 1 s m args below meth c D cy ad bs r σ' H locs (F0 m 53 ls []) := by
  obtain ⟨⟨hx, hb, -, -, -⟩, -⟩ := id X
  unfold g_X12_floor_b53 at hf
  refine lv_lload hx hb dX12_floor_53 (lv_at hl 0 rfl) ?_
  exact w_X12_floor_b55 X hw (lv_sub hl [] rfl) hf
def g_X12_floor_b43 (F : Nat)  (x4 t0 t1 : Int) (σ : mMem) : mRs := if mw t0 = mw t1 then (g_X12_floor_b53 F x4 σ) else (g_X12_floor_b55 F (x4 - 1) σ)
set_option maxRecDepth 100000 in
set_option maxHeartbeats 4000000 in
theorem w_X12_floor_b43 {p : Program} {l : Launch} {e : Env} {s : State} {m : MethodId} {args : Array Value} {below : List Frame} {meth : Method} {c : Code} {D : va_G} {cy : Nat → ClassId} {ad : Nat → Nat} {bs : Nat} {F : Nat}  (X : mCx p m c cX12_floor 6 s args RX12 meth D cy (some .long))  {r : Int} {σ' : mMem}   {x4 t0 t1 : Int} {σ : mMem} {H : Heap} {locs : List Loc} {ls : Array Slot} (hw : mWd D cy ad bs true mN σ s.heap H locs) (hl : lv_has ls 6 [(4, .long (mL x4))]) (hf : g_X12_floor_b43 F x4 t0 t1 σ = some (r, σ')) : mGl p l e 1 s m args below meth c D cy ad bs r σ' H locs (F0 m 43 ls [.int (mI t1), .int (mI t0)]) := by
  obtain ⟨⟨hx, hb, -, -, -⟩, -⟩ := id X
  unfold g_X12_floor_b43 at hf
  refine r_icmp_eq (tgt := 53) X dX12_floor_43 (by decide) hf (fun hc hf => ?_) (fun hc hf => ?_)
  · exact w_X12_floor_b53 X hw (lv_sub hl [0] rfl) hf
  · refine lv_lload hx hb dX12_floor_46 (lv_at hl 0 rfl) ?_
    refine lv_lconst (v := mL 1) hx hb dX12_floor_48 (by decide) ?_
    refine r_lsub X dX12_floor_49 ?_
    refine lv_goto (tgt := 55) hx hb dX12_floor_50 (by decide) ?_
    exact w_X12_floor_b55 X hw (lv_sub hl [] rfl) hf
def g_X12_floor_b32 (F : Nat)  (x2 x4 t0 : Int) (σ : mMem) : mRs := if mwl 0 ≤ mwl x2 then (g_X12_floor_b43 F x4 t0 0 σ) else (g_X12_floor_b43 F x4 t0 1 σ)
set_option maxRecDepth 100000 in
set_option maxHeartbeats 4000000 in
theorem w_X12_floor_b32 {p : Program} {l : Launch} {e : Env} {s : State} {m : MethodId} {args : Array Value} {below : List Frame} {meth : Method} {c : Code} {D : va_G} {cy : Nat → ClassId} {ad : Nat → Nat} {bs : Nat} {F : Nat}  (X : mCx p m c cX12_floor 6 s args RX12 meth D cy (some .long))  {r : Int} {σ' : mMem}   {x2 x4 t0 : Int} {σ : mMem} {H : Heap} {locs : List Loc} {ls : Array Slot} (hw : mWd D cy ad bs true mN σ s.heap H locs) (hl : lv_has ls 6 [(2, .long (mL x2)), (4, .long (mL x4))]) (hf : g_X12_floor_b32 F x2 x4 t0 σ = some (r, σ')) : mGl p l e 1 s m args below meth c D cy ad bs r σ' H locs (F0 m 32 ls [.int (mI t0)]) := by
  obtain ⟨⟨hx, hb, -, -, -⟩, -⟩ := id X
  unfold g_X12_floor_b32 at hf
  refine lv_lload_n hx hb dX12_floor_32 rfl (lv_at hl 0 rfl) ?_
  refine lv_lconst (v := mL 0) hx hb dX12_floor_33 (by decide) ?_
  refine r_lcmp_ge (tgt := 42) X dX12_floor_34 dX12_floor_35 (by decide) hf (fun hc hf => ?_) (fun hc hf => ?_)
  · refine lv_iconst (v := mI 0) hx hb dX12_floor_42 rfl ?_
    exact w_X12_floor_b43 X hw (lv_sub hl [1] rfl) hf
  · refine lv_iconst (v := mI 1) hx hb dX12_floor_38 rfl ?_
    refine lv_goto (tgt := 43) hx hb dX12_floor_39 (by decide) ?_
    exact w_X12_floor_b43 X hw (lv_sub hl [1] rfl) hf
def g_X12_floor (F : Nat) (x0 x2 : Int) (σ : mMem) : mRs := if ¬ mwl x2 = mwl 0 then (if mwl x2 = 0 then none else (mlet ((mwl x0).tdiv (mwl x2)) (fun y1 => if mwl x2 = 0 then none else (if mwl ((mwl x0).tmod (mwl x2)) = mwl 0 then (g_X12_floor_b53 F y1 σ) else (if mwl 0 ≤ mwl x0 then (g_X12_floor_b32 F x2 y1 0 σ) else (g_X12_floor_b32 F x2 y1 1 σ)))))) else (some (0, σ))
set_option maxRecDepth 100000 in
set_option maxHeartbeats 4000000 in
theorem c_X12_floor (l : Launch) (D : va_G) (cy : Nat → ClassId) (ad : Nat → Nat) (bs : Nat) (F : Nat)  (x0 x2 : Int) (σ : mMem) (r : Int) (σ' : mMem)  (hf : g_X12_floor F x0 x2 σ = some (r, σ')) : mCl l D cy ad bs yX12_floor cX12_floor 6 (some .long) 1 [.long (mL x0), .long (mL x2)] σ r σ' := by
  refine mCl.of (lv := [(0, .long (mL x0)), (2, .long (mL x2))]) km_X12_floor.2.2.2.2.2 (Nat.le_of_ble_eq_true rfl) rfl (fun p e s m args below meth c H locs ls X hw hl => ?_)
  obtain ⟨⟨hx, hb, -, -, -⟩, -⟩ := id X
  unfold g_X12_floor at hf
  refine lv_lload_n hx hb dX12_floor_0 rfl (lv_at hl 1 rfl) ?_
  refine lv_lconst (v := mL 0) hx hb dX12_floor_1 (by decide) ?_
  refine r_lcmp_ne (tgt := 8) X dX12_floor_2 dX12_floor_3 (by decide) hf (fun hc hf => ?_) (fun hc hf => ?_)
  · refine lv_lload_n hx hb dX12_floor_8 rfl (lv_at hl 0 rfl) ?_
    refine lv_lload_n hx hb dX12_floor_9 rfl (lv_at hl 1 rfl) ?_
    refine r_ldiv X dX12_floor_10 hf (fun hf => ?_)
    refine r_letl hf (fun y1 hf => ?_)
    refine lv_lstore (lv' := [(4, .long (mL y1)), (0, .long (mL x0)), (2, .long (mL x2))]) hx hb dX12_floor_11 hl (by decide) rfl (fun ls hl => ?_)
    refine lv_lload_n hx hb dX12_floor_13 rfl (lv_at hl 1 rfl) ?_
    refine lv_lload_n hx hb dX12_floor_14 rfl (lv_at hl 2 rfl) ?_
    refine r_lrem X dX12_floor_15 hf (fun hf => ?_)
    refine lv_lconst (v := mL 0) hx hb dX12_floor_16 (by decide) ?_
    refine r_lcmp_eq (tgt := 53) X dX12_floor_17 dX12_floor_18 (by decide) hf (fun hc hf => ?_) (fun hc hf => ?_)
    · exact w_X12_floor_b53 X hw (lv_sub hl [0] rfl) hf
    · refine lv_lload_n hx hb dX12_floor_21 rfl (lv_at hl 1 rfl) ?_
      refine lv_lconst (v := mL 0) hx hb dX12_floor_22 (by decide) ?_
      refine r_lcmp_ge (tgt := 31) X dX12_floor_23 dX12_floor_24 (by decide) hf (fun hc hf => ?_) (fun hc hf => ?_)
      · refine lv_iconst (v := mI 0) hx hb dX12_floor_31 rfl ?_
        exact w_X12_floor_b32 X hw (lv_sub hl [2, 0] rfl) hf
      · refine lv_iconst (v := mI 1) hx hb dX12_floor_27 rfl ?_
        refine lv_goto (tgt := 32) hx hb dX12_floor_28 (by decide) ?_
        exact w_X12_floor_b32 X hw (lv_sub hl [2, 0] rfl) hf
  · refine lv_lconst (v := mL 0) hx hb dX12_floor_6 (by decide) ?_
    exact r_lret X hw dX12_floor_7 hf
def g_X12_two_b112 (F : Nat)  (t0 : Int) (σ : mMem) : mRs := some (t0, σ)
set_option maxRecDepth 100000 in
set_option maxHeartbeats 4000000 in
theorem w_X12_two_b112 {p : Program} {l : Launch} {e : Env} {s : State} {m : MethodId} {args : Array Value} {below : List Frame} {meth : Method} {c : Code} {D : va_G} {cy : Nat → ClassId} {ad : Nat → Nat} {bs : Nat} {F : Nat}  (X : mCx p m c cX12_two 5 s args RX12 meth D cy (some .long))  {r : Int} {σ' : mMem}   {t0 : Int} {σ : mMem} {H : Heap} {locs : List Loc} {ls : Array Slot} (hw : mWd D cy ad bs true mN σ s.heap H locs) (hl : lv_has ls 5 []) (hf : g_X12_two_b112 F t0 σ = some (r, σ')) : mGl p l e 2 s m args below meth c D cy ad bs r σ' H locs (F0 m 112 ls [.long (mL t0)]) := by
  obtain ⟨⟨hx, hb, -, -, -⟩, -⟩ := id X
  unfold g_X12_two_b112 at hf
  exact r_lret X hw dX12_two_112 hf
def g_X12_two_b124 (F : Nat)  (t0 : Int) (σ : mMem) : mRs := some (t0, σ)
set_option maxRecDepth 100000 in
set_option maxHeartbeats 4000000 in
theorem w_X12_two_b124 {p : Program} {l : Launch} {e : Env} {s : State} {m : MethodId} {args : Array Value} {below : List Frame} {meth : Method} {c : Code} {D : va_G} {cy : Nat → ClassId} {ad : Nat → Nat} {bs : Nat} {F : Nat}  (X : mCx p m c cX12_two 5 s args RX12 meth D cy (some .long))  {r : Int} {σ' : mMem}   {t0 : Int} {σ : mMem} {H : Heap} {locs : List Loc} {ls : Array Slot} (hw : mWd D cy ad bs true mN σ s.heap H locs) (hl : lv_has ls 5 []) (hf : g_X12_two_b124 F t0 σ = some (r, σ')) : mGl p l e 2 s m args below meth c D cy ad bs r σ' H locs (F0 m 124 ls [.long (mL t0)]) := by
  obtain ⟨⟨hx, hb, -, -, -⟩, -⟩ := id X
  unfold g_X12_two_b124 at hf
  exact r_lret X hw dX12_two_124 hf
def g_X12_two_b136 (F : Nat)  (t0 : Int) (σ : mMem) : mRs := some (t0, σ)
set_option maxRecDepth 100000 in
set_option maxHeartbeats 4000000 in
theorem w_X12_two_b136 {p : Program} {l : Launch} {e : Env} {s : State} {m : MethodId} {args : Array Value} {below : List Frame} {meth : Method} {c : Code} {D : va_G} {cy : Nat → ClassId} {ad : Nat → Nat} {bs : Nat} {F : Nat}  (X : mCx p m c cX12_two 5 s args RX12 meth D cy (some .long))  {r : Int} {σ' : mMem}   {t0 : Int} {σ : mMem} {H : Heap} {locs : List Loc} {ls : Array Slot} (hw : mWd D cy ad bs true mN σ s.heap H locs) (hl : lv_has ls 5 []) (hf : g_X12_two_b136 F t0 σ = some (r, σ')) : mGl p l e 2 s m args below meth c D cy ad bs r σ' H locs (F0 m 136 ls [.long (mL t0)]) := by
  obtain ⟨⟨hx, hb, -, -, -⟩, -⟩ := id X
  unfold g_X12_two_b136 at hf
  exact r_lret X hw dX12_two_136 hf
def g_X12_two_b148 (F : Nat)  (t0 : Int) (σ : mMem) : mRs := some (t0, σ)
set_option maxRecDepth 100000 in
set_option maxHeartbeats 4000000 in
theorem w_X12_two_b148 {p : Program} {l : Launch} {e : Env} {s : State} {m : MethodId} {args : Array Value} {below : List Frame} {meth : Method} {c : Code} {D : va_G} {cy : Nat → ClassId} {ad : Nat → Nat} {bs : Nat} {F : Nat}  (X : mCx p m c cX12_two 5 s args RX12 meth D cy (some .long))  {r : Int} {σ' : mMem}   {t0 : Int} {σ : mMem} {H : Heap} {locs : List Loc} {ls : Array Slot} (hw : mWd D cy ad bs true mN σ s.heap H locs) (hl : lv_has ls 5 []) (hf : g_X12_two_b148 F t0 σ = some (r, σ')) : mGl p l e 2 s m args below meth c D cy ad bs r σ' H locs (F0 m 148 ls [.long (mL t0)]) := by
  obtain ⟨⟨hx, hb, -, -, -⟩, -⟩ := id X
  unfold g_X12_two_b148 at hf
  exact r_lret X hw dX12_two_148 hf
def g_X12_two_b160 (F : Nat)  (t0 : Int) (σ : mMem) : mRs := some (t0, σ)
set_option maxRecDepth 100000 in
set_option maxHeartbeats 4000000 in
theorem w_X12_two_b160 {p : Program} {l : Launch} {e : Env} {s : State} {m : MethodId} {args : Array Value} {below : List Frame} {meth : Method} {c : Code} {D : va_G} {cy : Nat → ClassId} {ad : Nat → Nat} {bs : Nat} {F : Nat}  (X : mCx p m c cX12_two 5 s args RX12 meth D cy (some .long))  {r : Int} {σ' : mMem}   {t0 : Int} {σ : mMem} {H : Heap} {locs : List Loc} {ls : Array Slot} (hw : mWd D cy ad bs true mN σ s.heap H locs) (hl : lv_has ls 5 []) (hf : g_X12_two_b160 F t0 σ = some (r, σ')) : mGl p l e 2 s m args below meth c D cy ad bs r σ' H locs (F0 m 160 ls [.long (mL t0)]) := by
  obtain ⟨⟨hx, hb, -, -, -⟩, -⟩ := id X
  unfold g_X12_two_b160 at hf
  exact r_lret X hw dX12_two_160 hf
def g_X12_two_b172 (F : Nat)  (t0 : Int) (σ : mMem) : mRs := some (t0, σ)
set_option maxRecDepth 100000 in
set_option maxHeartbeats 4000000 in
theorem w_X12_two_b172 {p : Program} {l : Launch} {e : Env} {s : State} {m : MethodId} {args : Array Value} {below : List Frame} {meth : Method} {c : Code} {D : va_G} {cy : Nat → ClassId} {ad : Nat → Nat} {bs : Nat} {F : Nat}  (X : mCx p m c cX12_two 5 s args RX12 meth D cy (some .long))  {r : Int} {σ' : mMem}   {t0 : Int} {σ : mMem} {H : Heap} {locs : List Loc} {ls : Array Slot} (hw : mWd D cy ad bs true mN σ s.heap H locs) (hl : lv_has ls 5 []) (hf : g_X12_two_b172 F t0 σ = some (r, σ')) : mGl p l e 2 s m args below meth c D cy ad bs r σ' H locs (F0 m 172 ls [.long (mL t0)]) := by
  obtain ⟨⟨hx, hb, -, -, -⟩, -⟩ := id X
  unfold g_X12_two_b172 at hf
  exact r_lret X hw dX12_two_172 hf
def g_X12_two (F : Nat) (x0 x1 x3 : Int) (σ : mMem) : mRs := if mw x0 = 31 then (mob (g_X12_held F (x1 + x3) σ) (fun r1 σ2 => some (r1, σ2))) else (if mw x0 = 32 then (mob (g_X12_held F (x1 - x3) σ) (fun r3 σ4 => some (r3, σ4))) else (if mw x0 = 33 then (mob (g_X12_held F (x1 * x3) σ) (fun r5 σ6 => some (r5, σ6))) else (if mw x0 = 34 then (mob (g_X12_floor F x1 x3 σ) (fun r7 σ8 => mob (g_X12_held F r7 σ8) (fun r9 σ10 => some (r9, σ10)))) else (if mw x0 = 35 then (if ¬ mwl x3 = mwl 0 then (mob (g_X12_floor F x1 x3 σ) (fun r11 σ12 => mob (g_X12_held F (x1 - (x3 * r11)) σ12) (fun r13 σ14 => g_X12_two_b112 F r13 σ14))) else (g_X12_two_b112 F 0 σ)) else (if mw x0 = 36 then (if mwl x3 ≤ mwl x1 then (g_X12_two_b124 F x3 σ) else (g_X12_two_b124 F x1 σ)) else (if mw x0 = 37 then (if mwl x1 ≤ mwl x3 then (g_X12_two_b136 F x3 σ) else (g_X12_two_b136 F x1 σ)) else (if mw x0 = 38 then (if mwl x3 ≤ mwl x1 then (g_X12_two_b148 F 0 σ) else (g_X12_two_b148 F 1 σ)) else (if mw x0 = 39 then (if mwl x1 ≤ mwl x3 then (g_X12_two_b160 F 0 σ) else (g_X12_two_b160 F 1 σ)) else (if mw x0 = 40 then (if ¬ mwl x1 = mwl x3 then (g_X12_two_b172 F 0 σ) else (g_X12_two_b172 F 1 σ)) else (if mw x0 = 41 then (some (mland x1 x3, σ)) else (some (mlor x1 x3, σ))))))))))))
set_option maxRecDepth 100000 in
set_option maxHeartbeats 4000000 in
theorem c_X12_two (l : Launch) (D : va_G) (cy : Nat → ClassId) (ad : Nat → Nat) (bs : Nat) (F : Nat)  (x0 x1 x3 : Int) (σ : mMem) (r : Int) (σ' : mMem)  (hf : g_X12_two F x0 x1 x3 σ = some (r, σ')) : mCl l D cy ad bs yX12_two cX12_two 5 (some .long) 2 [.int (mI x0), .long (mL x1), .long (mL x3)] σ r σ' := by
  refine mCl.of (lv := [(0, .int (mI x0)), (1, .long (mL x1)), (3, .long (mL x3))]) km_X12_two.2.2.2.2.2 (Nat.le_of_ble_eq_true rfl) rfl (fun p e s m args below meth c H locs ls X hw hl => ?_)
  obtain ⟨⟨hx, hb, -, -, -⟩, -⟩ := id X
  unfold g_X12_two at hf
  refine lv_iload_n hx hb dX12_two_0 rfl (lv_at hl 0 rfl) ?_
  refine r_case hf (fun hc31 hf => ?_) (fun hc31 hf => ?_)
  · refine r_tin (k := 31) (off := 59) (tgt := 60) X dX12_two_1 hc31 (by decide) (by decide) rfl (by decide) ?_
    refine lv_lload_n hx hb dX12_two_60 rfl (lv_at hl 1 rfl) ?_
    refine lv_lload_n hx hb dX12_two_61 rfl (lv_at hl 2 rfl) ?_
    refine r_ladd X dX12_two_62 ?_
    refine r_csl (rest := []) [.long (mL (x1 + x3))] X hw (fun ra σa h => c_X12_held l D cy ad bs F (x1 + x3) σ ra σa  h) km_X12_held ks_X12_held lm_X12_428 dX12_two_63 hl.1 rfl rfl (Nat.le_of_ble_eq_true rfl) ⟨by decide, by decide⟩ ⟨Nat.zero_le _, Nat.zero_le _⟩ hf (fun r1 σ2 _ hf H locs hw => ?_)
    exact r_lret X hw dX12_two_66 hf
  refine r_case hf (fun hc32 hf => ?_) (fun hc32 hf => ?_)
  · refine r_tin (k := 32) (off := 66) (tgt := 67) X dX12_two_1 hc32 (by decide) (by decide) rfl (by decide) ?_
    refine lv_lload_n hx hb dX12_two_67 rfl (lv_at hl 1 rfl) ?_
    refine lv_lload_n hx hb dX12_two_68 rfl (lv_at hl 2 rfl) ?_
    refine r_lsub X dX12_two_69 ?_
    refine r_csl (rest := []) [.long (mL (x1 - x3))] X hw (fun ra σa h => c_X12_held l D cy ad bs F (x1 - x3) σ ra σa  h) km_X12_held ks_X12_held lm_X12_428 dX12_two_70 hl.1 rfl rfl (Nat.le_of_ble_eq_true rfl) ⟨by decide, by decide⟩ ⟨Nat.zero_le _, Nat.zero_le _⟩ hf (fun r3 σ4 _ hf H locs hw => ?_)
    exact r_lret X hw dX12_two_73 hf
  refine r_case hf (fun hc33 hf => ?_) (fun hc33 hf => ?_)
  · refine r_tin (k := 33) (off := 73) (tgt := 74) X dX12_two_1 hc33 (by decide) (by decide) rfl (by decide) ?_
    refine lv_lload_n hx hb dX12_two_74 rfl (lv_at hl 1 rfl) ?_
    refine lv_lload_n hx hb dX12_two_75 rfl (lv_at hl 2 rfl) ?_
    refine r_lmul X dX12_two_76 ?_
    refine r_csl (rest := []) [.long (mL (x1 * x3))] X hw (fun ra σa h => c_X12_held l D cy ad bs F (x1 * x3) σ ra σa  h) km_X12_held ks_X12_held lm_X12_428 dX12_two_77 hl.1 rfl rfl (Nat.le_of_ble_eq_true rfl) ⟨by decide, by decide⟩ ⟨Nat.zero_le _, Nat.zero_le _⟩ hf (fun r5 σ6 _ hf H locs hw => ?_)
    exact r_lret X hw dX12_two_80 hf
  refine r_case hf (fun hc34 hf => ?_) (fun hc34 hf => ?_)
  · refine r_tin (k := 34) (off := 80) (tgt := 81) X dX12_two_1 hc34 (by decide) (by decide) rfl (by decide) ?_
    refine lv_lload_n hx hb dX12_two_81 rfl (lv_at hl 1 rfl) ?_
    refine lv_lload_n hx hb dX12_two_82 rfl (lv_at hl 2 rfl) ?_
    refine r_csl (rest := []) [.long (mL x1), .long (mL x3)] X hw (fun ra σa h => c_X12_floor l D cy ad bs F x1 x3 σ ra σa  h) km_X12_floor ks_X12_floor lm_X12_432 dX12_two_83 hl.1 rfl rfl (Nat.le_of_ble_eq_true rfl) ⟨by decide, by decide⟩ ⟨Nat.zero_le _, Nat.zero_le _⟩ hf (fun r7 σ8 _ hf H locs hw => ?_)
    refine r_csl (rest := []) [.long (mL r7)] X hw (fun ra σa h => c_X12_held l D cy ad bs F r7 σ8 ra σa  h) km_X12_held ks_X12_held lm_X12_428 dX12_two_86 hl.1 rfl rfl (Nat.le_of_ble_eq_true rfl) ⟨by decide, by decide⟩ ⟨Nat.zero_le _, Nat.zero_le _⟩ hf (fun r9 σ10 _ hf H locs hw => ?_)
    exact r_lret X hw dX12_two_89 hf
  refine r_case hf (fun hc35 hf => ?_) (fun hc35 hf => ?_)
  · refine r_tin (k := 35) (off := 89) (tgt := 90) X dX12_two_1 hc35 (by decide) (by decide) rfl (by decide) ?_
    refine lv_lload_n hx hb dX12_two_90 rfl (lv_at hl 2 rfl) ?_
    refine lv_lconst (v := mL 0) hx hb dX12_two_91 (by decide) ?_
    refine r_lcmp_ne (tgt := 100) X dX12_two_92 dX12_two_93 (by decide) hf (fun hc hf => ?_) (fun hc hf => ?_)
    · refine lv_lload_n hx hb dX12_two_100 rfl (lv_at hl 1 rfl) ?_
      refine lv_lload_n hx hb dX12_two_101 rfl (lv_at hl 2 rfl) ?_
      refine lv_lload_n hx hb dX12_two_102 rfl (lv_at hl 1 rfl) ?_
      refine lv_lload_n hx hb dX12_two_103 rfl (lv_at hl 2 rfl) ?_
      refine r_csl (rest := [.long (mL x3), .long (mL x1)]) [.long (mL x1), .long (mL x3)] X hw (fun ra σa h => c_X12_floor l D cy ad bs F x1 x3 σ ra σa  h) km_X12_floor ks_X12_floor lm_X12_432 dX12_two_104 hl.1 rfl rfl (Nat.le_of_ble_eq_true rfl) ⟨by decide, by decide⟩ ⟨Nat.zero_le _, Nat.zero_le _⟩ hf (fun r11 σ12 _ hf H locs hw => ?_)
      refine r_lmul X dX12_two_107 ?_
      refine r_lsub X dX12_two_108 ?_
      refine r_csl (rest := []) [.long (mL (x1 - (x3 * r11)))] X hw (fun ra σa h => c_X12_held l D cy ad bs F (x1 - (x3 * r11)) σ12 ra σa  h) km_X12_held ks_X12_held lm_X12_428 dX12_two_109 hl.1 rfl rfl (Nat.le_of_ble_eq_true rfl) ⟨by decide, by decide⟩ ⟨Nat.zero_le _, Nat.zero_le _⟩ hf (fun r13 σ14 _ hf H locs hw => ?_)
      exact w_X12_two_b112 X hw (lv_sub hl [] rfl) hf
    · refine lv_lconst (v := mL 0) hx hb dX12_two_96 (by decide) ?_
      refine lv_goto (tgt := 112) hx hb dX12_two_97 (by decide) ?_
      exact w_X12_two_b112 X hw (lv_sub hl [] rfl) hf
  refine r_case hf (fun hc36 hf => ?_) (fun hc36 hf => ?_)
  · refine r_tin (k := 36) (off := 112) (tgt := 113) X dX12_two_1 hc36 (by decide) (by decide) rfl (by decide) ?_
    refine lv_lload_n hx hb dX12_two_113 rfl (lv_at hl 1 rfl) ?_
    refine lv_lload_n hx hb dX12_two_114 rfl (lv_at hl 2 rfl) ?_
    refine r_lcmp_ge (tgt := 123) X dX12_two_115 dX12_two_116 (by decide) hf (fun hc hf => ?_) (fun hc hf => ?_)
    · refine lv_lload_n hx hb dX12_two_123 rfl (lv_at hl 2 rfl) ?_
      exact w_X12_two_b124 X hw (lv_sub hl [] rfl) hf
    · refine lv_lload_n hx hb dX12_two_119 rfl (lv_at hl 1 rfl) ?_
      refine lv_goto (tgt := 124) hx hb dX12_two_120 (by decide) ?_
      exact w_X12_two_b124 X hw (lv_sub hl [] rfl) hf
  refine r_case hf (fun hc37 hf => ?_) (fun hc37 hf => ?_)
  · refine r_tin (k := 37) (off := 124) (tgt := 125) X dX12_two_1 hc37 (by decide) (by decide) rfl (by decide) ?_
    refine lv_lload_n hx hb dX12_two_125 rfl (lv_at hl 1 rfl) ?_
    refine lv_lload_n hx hb dX12_two_126 rfl (lv_at hl 2 rfl) ?_
    refine r_lcmp_le (tgt := 135) X dX12_two_127 dX12_two_128 (by decide) hf (fun hc hf => ?_) (fun hc hf => ?_)
    · refine lv_lload_n hx hb dX12_two_135 rfl (lv_at hl 2 rfl) ?_
      exact w_X12_two_b136 X hw (lv_sub hl [] rfl) hf
    · refine lv_lload_n hx hb dX12_two_131 rfl (lv_at hl 1 rfl) ?_
      refine lv_goto (tgt := 136) hx hb dX12_two_132 (by decide) ?_
      exact w_X12_two_b136 X hw (lv_sub hl [] rfl) hf
  refine r_case hf (fun hc38 hf => ?_) (fun hc38 hf => ?_)
  · refine r_tin (k := 38) (off := 136) (tgt := 137) X dX12_two_1 hc38 (by decide) (by decide) rfl (by decide) ?_
    refine lv_lload_n hx hb dX12_two_137 rfl (lv_at hl 1 rfl) ?_
    refine lv_lload_n hx hb dX12_two_138 rfl (lv_at hl 2 rfl) ?_
    refine r_lcmp_ge (tgt := 147) X dX12_two_139 dX12_two_140 (by decide) hf (fun hc hf => ?_) (fun hc hf => ?_)
    · refine lv_lconst (v := mL 0) hx hb dX12_two_147 (by decide) ?_
      exact w_X12_two_b148 X hw (lv_sub hl [] rfl) hf
    · refine lv_lconst (v := mL 1) hx hb dX12_two_143 (by decide) ?_
      refine lv_goto (tgt := 148) hx hb dX12_two_144 (by decide) ?_
      exact w_X12_two_b148 X hw (lv_sub hl [] rfl) hf
  refine r_case hf (fun hc39 hf => ?_) (fun hc39 hf => ?_)
  · refine r_tin (k := 39) (off := 148) (tgt := 149) X dX12_two_1 hc39 (by decide) (by decide) rfl (by decide) ?_
    refine lv_lload_n hx hb dX12_two_149 rfl (lv_at hl 1 rfl) ?_
    refine lv_lload_n hx hb dX12_two_150 rfl (lv_at hl 2 rfl) ?_
    refine r_lcmp_le (tgt := 159) X dX12_two_151 dX12_two_152 (by decide) hf (fun hc hf => ?_) (fun hc hf => ?_)
    · refine lv_lconst (v := mL 0) hx hb dX12_two_159 (by decide) ?_
      exact w_X12_two_b160 X hw (lv_sub hl [] rfl) hf
    · refine lv_lconst (v := mL 1) hx hb dX12_two_155 (by decide) ?_
      refine lv_goto (tgt := 160) hx hb dX12_two_156 (by decide) ?_
      exact w_X12_two_b160 X hw (lv_sub hl [] rfl) hf
  refine r_case hf (fun hc40 hf => ?_) (fun hc40 hf => ?_)
  · refine r_tin (k := 40) (off := 160) (tgt := 161) X dX12_two_1 hc40 (by decide) (by decide) rfl (by decide) ?_
    refine lv_lload_n hx hb dX12_two_161 rfl (lv_at hl 1 rfl) ?_
    refine lv_lload_n hx hb dX12_two_162 rfl (lv_at hl 2 rfl) ?_
    refine r_lcmp_ne (tgt := 171) X dX12_two_163 dX12_two_164 (by decide) hf (fun hc hf => ?_) (fun hc hf => ?_)
    · refine lv_lconst (v := mL 0) hx hb dX12_two_171 (by decide) ?_
      exact w_X12_two_b172 X hw (lv_sub hl [] rfl) hf
    · refine lv_lconst (v := mL 1) hx hb dX12_two_167 (by decide) ?_
      refine lv_goto (tgt := 172) hx hb dX12_two_168 (by decide) ?_
      exact w_X12_two_b172 X hw (lv_sub hl [] rfl) hf
  refine r_case hf (fun hc41 hf => ?_) (fun hc41 hf => ?_)
  · refine r_tin (k := 41) (off := 172) (tgt := 173) X dX12_two_1 hc41 (by decide) (by decide) rfl (by decide) ?_
    refine lv_lload_n hx hb dX12_two_173 rfl (lv_at hl 1 rfl) ?_
    refine lv_lload_n hx hb dX12_two_174 rfl (lv_at hl 2 rfl) ?_
    refine r_land X dX12_two_175 ?_
    exact r_lret X hw dX12_two_176 hf
  refine r_tout (tgt := 177) X dX12_two_1 (by omega) (by decide) ?_
  refine lv_lload_n hx hb dX12_two_177 rfl (lv_at hl 1 rfl) ?_
  refine lv_lload_n hx hb dX12_two_178 rfl (lv_at hl 2 rfl) ?_
  refine r_lor X dX12_two_179 ?_
  exact r_lret X hw dX12_two_180 hf
def g_X12_reckons_b221 (F : Nat) (k25 : Int → Int → Int → mMem → mRs) (x1 x2 x3 : Int) (σ : mMem) : mRs := k25 x1 x2 (x3 + 1) σ
set_option maxRecDepth 100000 in
set_option maxHeartbeats 4000000 in
theorem w_X12_reckons_b221 {p : Program} {l : Launch} {e : Env} {s : State} {m : MethodId} {args : Array Value} {below : List Frame} {meth : Method} {c : Code} {D : va_G} {cy : Nat → ClassId} {ad : Nat → Nat} {bs : Nat} {F : Nat}  (X : mCx p m c cX12_reckons 5 s args RX12 meth D cy (some .long))  {r : Int} {σ' : mMem} {k25 : Int → Int → Int → mMem → mRs} (hk25 : ∀ (x1 x2 x3 : Int) (σ : mMem) (H : Heap) (locs : List Loc) (ls : Array Slot), mWd D cy ad bs true mN σ s.heap H locs → lv_has ls 5 [(0, .ref (ad 86)), (1, .int (mI x1)), (2, .int (mI x2)), (3, .int (mI x3))] → k25 x1 x2 x3 σ = some (r, σ') → mGl p l e 3 s m args below meth c D cy ad bs r σ' H locs (F0 m 25 ls [])) {x1 x2 x3 : Int} {σ : mMem} {H : Heap} {locs : List Loc} {ls : Array Slot} (hw : mWd D cy ad bs true mN σ s.heap H locs) (hl : lv_has ls 5 [(0, .ref (ad 86)), (1, .int (mI x1)), (2, .int (mI x2)), (3, .int (mI x3))]) (hf : g_X12_reckons_b221 F k25 x1 x2 x3 σ = some (r, σ')) : mGl p l e 3 s m args below meth c D cy ad bs r σ' H locs (F0 m 221 ls []) := by
  obtain ⟨⟨hx, hb, -, -, -⟩, -⟩ := id X
  unfold g_X12_reckons_b221 at hf
  refine lv_iinc (v := mI (x3 + 1)) (lv' := [(3, .int (mI (x3 + 1))), (0, .ref (ad 86)), (1, .int (mI x1)), (2, .int (mI x2))]) hx hb dX12_reckons_221 hl (k := 3) rfl (mI_add _ _) (by decide) rfl (fun ls hl => ?_)
  refine lv_goto (tgt := 25) hx hb dX12_reckons_224 (by decide) ?_
  exact hk25 x1 x2 (x3 + 1) σ _ _ _ hw (lv_sub hl [1, 2, 3, 0] rfl) hf
def g_X12_reckons_b187 (F : Nat) (k25 : Int → Int → Int → mMem → mRs) (x1 x2 x3 t0 t1 : Int) (σ : mMem) : mRs := if 0 ≤ mw t0 ∧ mw t0 < (500 : Int) then mlm (mup σ 119 (mw t0).toNat t1) (fun σ307 => g_X12_reckons_b221 F k25 x1 x2 x3 σ307) else none
set_option maxRecDepth 100000 in
set_option maxHeartbeats 4000000 in
theorem w_X12_reckons_b187 {p : Program} {l : Launch} {e : Env} {s : State} {m : MethodId} {args : Array Value} {below : List Frame} {meth : Method} {c : Code} {D : va_G} {cy : Nat → ClassId} {ad : Nat → Nat} {bs : Nat} {F : Nat}  (X : mCx p m c cX12_reckons 5 s args RX12 meth D cy (some .long))  {r : Int} {σ' : mMem} {k25 : Int → Int → Int → mMem → mRs} (hk25 : ∀ (x1 x2 x3 : Int) (σ : mMem) (H : Heap) (locs : List Loc) (ls : Array Slot), mWd D cy ad bs true mN σ s.heap H locs → lv_has ls 5 [(0, .ref (ad 86)), (1, .int (mI x1)), (2, .int (mI x2)), (3, .int (mI x3))] → k25 x1 x2 x3 σ = some (r, σ') → mGl p l e 3 s m args below meth c D cy ad bs r σ' H locs (F0 m 25 ls [])) {x1 x2 x3 t0 t1 : Int} {σ : mMem} {H : Heap} {locs : List Loc} {ls : Array Slot} (hw : mWd D cy ad bs true mN σ s.heap H locs) (hl : lv_has ls 5 [(0, .ref (ad 86)), (1, .int (mI x1)), (2, .int (mI x2)), (3, .int (mI x3))]) (hf : g_X12_reckons_b187 F k25 x1 x2 x3 t0 t1 σ = some (r, σ')) : mGl p l e 3 s m args below meth c D cy ad bs r σ' H locs (F0 m 187 ls [.long (mL t1), .int (mI t0), .ref (ad 119)]) := by
  obtain ⟨⟨hx, hb, -, -, -⟩, -⟩ := id X
  unfold g_X12_reckons_b187 at hf
  refine r_last (500 : Int) rfl X hw sh_119 dX12_reckons_187 hf (fun hf H locs hw => ?_)
  refine r_mem hf hw (fun σ307 hw hf => ?_)
  refine lv_goto (tgt := 221) hx hb dX12_reckons_188 (by decide) ?_
  exact w_X12_reckons_b221 X hk25 hw (lv_sub hl [0, 1, 2, 3] rfl) hf
def g_X12_reckons_b105 (F : Nat) (k25 : Int → Int → Int → mMem → mRs) (x1 x2 x3 t0 t1 : Int) (σ : mMem) : mRs := if 0 ≤ mw t0 ∧ mw t0 < (500 : Int) then mlm (mup σ 119 (mw t0).toNat t1) (fun σ408 => g_X12_reckons_b221 F k25 x1 (x2 + 1) x3 σ408) else none
set_option maxRecDepth 100000 in
set_option maxHeartbeats 4000000 in
theorem w_X12_reckons_b105 {p : Program} {l : Launch} {e : Env} {s : State} {m : MethodId} {args : Array Value} {below : List Frame} {meth : Method} {c : Code} {D : va_G} {cy : Nat → ClassId} {ad : Nat → Nat} {bs : Nat} {F : Nat}  (X : mCx p m c cX12_reckons 5 s args RX12 meth D cy (some .long))  {r : Int} {σ' : mMem} {k25 : Int → Int → Int → mMem → mRs} (hk25 : ∀ (x1 x2 x3 : Int) (σ : mMem) (H : Heap) (locs : List Loc) (ls : Array Slot), mWd D cy ad bs true mN σ s.heap H locs → lv_has ls 5 [(0, .ref (ad 86)), (1, .int (mI x1)), (2, .int (mI x2)), (3, .int (mI x3))] → k25 x1 x2 x3 σ = some (r, σ') → mGl p l e 3 s m args below meth c D cy ad bs r σ' H locs (F0 m 25 ls [])) {x1 x2 x3 t0 t1 : Int} {σ : mMem} {H : Heap} {locs : List Loc} {ls : Array Slot} (hw : mWd D cy ad bs true mN σ s.heap H locs) (hl : lv_has ls 5 [(0, .ref (ad 86)), (1, .int (mI x1)), (2, .int (mI x2)), (3, .int (mI x3))]) (hf : g_X12_reckons_b105 F k25 x1 x2 x3 t0 t1 σ = some (r, σ')) : mGl p l e 3 s m args below meth c D cy ad bs r σ' H locs (F0 m 105 ls [.long (mL t1), .int (mI t0), .ref (ad 119)]) := by
  obtain ⟨⟨hx, hb, -, -, -⟩, -⟩ := id X
  unfold g_X12_reckons_b105 at hf
  refine r_last (500 : Int) rfl X hw sh_119 dX12_reckons_105 hf (fun hf H locs hw => ?_)
  refine r_mem hf hw (fun σ408 hw hf => ?_)
  refine lv_iinc (v := mI (x2 + 1)) (lv' := [(2, .int (mI (x2 + 1))), (0, .ref (ad 86)), (1, .int (mI x1)), (3, .int (mI x3))]) hx hb dX12_reckons_106 hl (k := 2) rfl (mI_add _ _) (by decide) rfl (fun ls hl => ?_)
  refine lv_goto (tgt := 221) hx hb dX12_reckons_109 (by decide) ?_
  exact w_X12_reckons_b221 X hk25 hw (lv_sub hl [1, 2, 0, 3] rfl) hf
def g_X12_reckons_h25 (F : Nat)  : Nat → Int → Int → Int → mMem → mRs
  | 0, _, _, _, _ => none
  | n + 1, x1, x2, x3, σ => if 0 ≤ mw ((2 * (σ 86 13)) + x1) ∧ mw ((2 * (σ 86 13)) + x1) < (4 : Int) then if mw ((1600 * (σ 86 13)) + (σ 99 (mw ((2 * (σ 86 13)) + x1)).toNat)) ≤ mw x3 then (if 0 ≤ mw 0 ∧ mw 0 < (500 : Int) then some (σ 119 (mw 0).toNat, σ) else none) else (if 0 ≤ mw x3 ∧ mw x3 < (3200 : Int) then mlet (σ 100 (mw x3).toNat) (fun y102 => if mw 30 < mw y102 then (if ¬ mw y102 = mw 43 then (if ¬ mw y102 = mw 44 then (if 0 ≤ mw ((x2 + (-1)) - 1) ∧ mw ((x2 + (-1)) - 1) < (500 : Int) then if 0 ≤ mw (x2 + (-1)) ∧ mw (x2 + (-1)) < (500 : Int) then mob (g_X12_two F y102 (σ 119 (mw ((x2 + (-1)) - 1)).toNat) (σ 119 (mw (x2 + (-1))).toNat) σ) (fun r103 σ104 => if 0 ≤ mw ((x2 + (-1)) - 1) ∧ mw ((x2 + (-1)) - 1) < (500 : Int) then mlm (mup σ104 119 (mw ((x2 + (-1)) - 1)).toNat r103) (fun σ105 => g_X12_reckons_b221 F (g_X12_reckons_h25 F n) x1 (x2 + (-1)) x3 σ105) else none) else none else none) else (if 0 ≤ mw ((x2 + (-2)) - 1) ∧ mw ((x2 + (-2)) - 1) < (500 : Int) then if ¬ mwl (σ 119 (mw ((x2 + (-2)) - 1)).toNat) = mwl 1 then (if 0 ≤ mw ((x2 + (-2)) + 1) ∧ mw ((x2 + (-2)) + 1) < (500 : Int) then g_X12_reckons_b187 F (g_X12_reckons_h25 F n) x1 (x2 + (-2)) x3 ((x2 + (-2)) - 1) (σ 119 (mw ((x2 + (-2)) + 1)).toNat) σ else none) else (if 0 ≤ mw (x2 + (-2)) ∧ mw (x2 + (-2)) < (500 : Int) then g_X12_reckons_b187 F (g_X12_reckons_h25 F n) x1 (x2 + (-2)) x3 ((x2 + (-2)) - 1) (σ 119 (mw (x2 + (-2))).toNat) σ else none) else none)) else (if 0 ≤ mw (x2 - 1) ∧ mw (x2 - 1) < (500 : Int) then if 0 ≤ mw (x2 - 1) ∧ mw (x2 - 1) < (500 : Int) then mlm (mup σ 119 (mw (x2 - 1)).toNat (1 - (σ 119 (mw (x2 - 1)).toNat))) (fun σ106 => g_X12_reckons_b221 F (g_X12_reckons_h25 F n) x1 x2 x3 σ106) else none else none)) else (if ¬ mw y102 = 0 then (if ¬ mw y102 = mw 30 then (if 0 ≤ mw y102 ∧ mw y102 < (12 : Int) then g_X12_reckons_b105 F (g_X12_reckons_h25 F n) x1 x2 x3 x2 (mw (σ 120 (mw y102).toNat)) σ else none) else (g_X12_reckons_b105 F (g_X12_reckons_h25 F n) x1 x2 x3 x2 1 σ)) else (if 0 ≤ mw x3 ∧ mw x3 < (3200 : Int) then g_X12_reckons_b105 F (g_X12_reckons_h25 F n) x1 x2 x3 x2 (mw (σ 101 (mw x3).toNat)) σ else none))) else none) else none
set_option maxRecDepth 100000 in
set_option maxHeartbeats 4000000 in
theorem w_X12_reckons_h25 {p : Program} {l : Launch} {e : Env} {s : State} {m : MethodId} {args : Array Value} {below : List Frame} {meth : Method} {c : Code} {D : va_G} {cy : Nat → ClassId} {ad : Nat → Nat} {bs : Nat} {F : Nat}  (X : mCx p m c cX12_reckons 5 s args RX12 meth D cy (some .long))  {r : Int} {σ' : mMem}   (n : Nat) : ∀ {x1 x2 x3 : Int} {σ : mMem} {H : Heap} {locs : List Loc} {ls : Array Slot} (_ : mWd D cy ad bs true mN σ s.heap H locs) (_ : lv_has ls 5 [(0, .ref (ad 86)), (1, .int (mI x1)), (2, .int (mI x2)), (3, .int (mI x3))]) (_ : g_X12_reckons_h25 F n x1 x2 x3 σ = some (r, σ')), mGl p l e 3 s m args below meth c D cy ad bs r σ' H locs (F0 m 25 ls []) := by
  obtain ⟨⟨hx, hb, -, -, -⟩, -⟩ := id X
  induction n with
  | zero =>
    intro x1 x2 x3 σ H locs ls hw hl hf
    unfold g_X12_reckons_h25 at hf
    cases hf
  | succ n ih =>
    have hk25 : ∀ (x1 x2 x3 : Int) (σ : mMem) (H : Heap) (locs : List Loc) (ls : Array Slot), mWd D cy ad bs true mN σ s.heap H locs → lv_has ls 5 [(0, .ref (ad 86)), (1, .int (mI x1)), (2, .int (mI x2)), (3, .int (mI x3))] → g_X12_reckons_h25 F n x1 x2 x3 σ = some (r, σ') → mGl p l e 3 s m args below meth c D cy ad bs r σ' H locs (F0 m 25 ls []) := fun x1 x2 x3 σ H locs ls hw hl hf => ih hw hl hf
    intro x1 x2 x3 σ H locs ls hw hl hf
    unfold g_X12_reckons_h25 at hf
    refine lv_iload_n hx hb dX12_reckons_25 rfl (lv_at hl 3 rfl) ?_
    refine lv_sipush (v := mI 1600) hx hb dX12_reckons_26 (by decide) ?_
    refine lv_aload_n hx hb dX12_reckons_29 rfl (lv_at hl 0 rfl) ?_
    refine r_geti X hw sh_86 fd_12_13 rfl lf_X12_51 dX12_reckons_30 ?_
    refine r_imul X dX12_reckons_33 ?_
    refine lv_aload_n hx hb dX12_reckons_34 rfl (lv_at hl 0 rfl) ?_
    refine r_getr 99 X hw sh_86 fd_12_25 rfl rfl lf_X12_87 dX12_reckons_35 ?_
    refine lv_iconst (v := mI 2) hx hb dX12_reckons_38 rfl ?_
    refine lv_aload_n hx hb dX12_reckons_39 rfl (lv_at hl 0 rfl) ?_
    refine r_geti X hw sh_86 fd_12_13 rfl lf_X12_51 dX12_reckons_40 ?_
    refine r_imul X dX12_reckons_43 ?_
    refine lv_iload_n hx hb dX12_reckons_44 rfl (lv_at hl 1 rfl) ?_
    refine r_iadd X dX12_reckons_45 ?_
    refine r_iald (4 : Int) rfl X hw sh_99 dX12_reckons_46 hf (fun hf => ?_)
    refine r_iadd X dX12_reckons_47 ?_
    refine r_icmp_ge (tgt := 227) X dX12_reckons_48 (by decide) hf (fun hc hf => ?_) (fun hc hf => ?_)
    · refine lv_aload_n hx hb dX12_reckons_227 rfl (lv_at hl 0 rfl) ?_
      refine r_getr 119 X hw sh_86 fd_12_55 rfl rfl lf_X12_180 dX12_reckons_228 ?_
      refine lv_iconst (v := mI 0) hx hb dX12_reckons_231 rfl ?_
      refine r_lald (500 : Int) rfl X hw sh_119 dX12_reckons_232 hf (fun hf => ?_)
      exact r_lret X hw dX12_reckons_233 hf
    · refine lv_aload_n hx hb dX12_reckons_51 rfl (lv_at hl 0 rfl) ?_
      refine r_getr 100 X hw sh_86 fd_12_26 rfl rfl lf_X12_90 dX12_reckons_52 ?_
      refine lv_iload_n hx hb dX12_reckons_55 rfl (lv_at hl 3 rfl) ?_
      refine r_iald (3200 : Int) rfl X hw sh_100 dX12_reckons_56 hf (fun hf => ?_)
      refine r_leti hf (fun y102 hf => ?_)
      refine lv_istore (lv' := [(4, .int (mI y102)), (0, .ref (ad 86)), (1, .int (mI x1)), (2, .int (mI x2)), (3, .int (mI x3))]) hx hb dX12_reckons_57 hl (by decide) rfl (fun ls hl => ?_)
      refine lv_iload hx hb dX12_reckons_59 (lv_at hl 0 rfl) ?_
      refine lv_bipush (v := mI 30) hx hb dX12_reckons_61 (by decide) ?_
      refine r_icmp_gt (tgt := 112) X dX12_reckons_63 (by decide) hf (fun hc hf => ?_) (fun hc hf => ?_)
      · refine lv_iload hx hb dX12_reckons_112 (lv_at hl 0 rfl) ?_
        refine lv_bipush (v := mI 43) hx hb dX12_reckons_114 (by decide) ?_
        refine r_icmp_ne (tgt := 140) X dX12_reckons_116 (by decide) hf (fun hc hf => ?_) (fun hc hf => ?_)
        · refine lv_iload hx hb dX12_reckons_140 (lv_at hl 0 rfl) ?_
          refine lv_bipush (v := mI 44) hx hb dX12_reckons_142 (by decide) ?_
          refine r_icmp_ne (tgt := 191) X dX12_reckons_144 (by decide) hf (fun hc hf => ?_) (fun hc hf => ?_)
          · refine lv_iinc (v := mI (x2 + (-1))) (lv' := [(2, .int (mI (x2 + (-1)))), (4, .int (mI y102)), (0, .ref (ad 86)), (1, .int (mI x1)), (3, .int (mI x3))]) hx hb dX12_reckons_191 hl (k := 3) rfl (mI_add _ _) (by decide) rfl (fun ls hl => ?_)
            refine lv_aload_n hx hb dX12_reckons_194 rfl (lv_at hl 2 rfl) ?_
            refine r_getr 119 X hw sh_86 fd_12_55 rfl rfl lf_X12_180 dX12_reckons_195 ?_
            refine lv_iload_n hx hb dX12_reckons_198 rfl (lv_at hl 0 rfl) ?_
            refine lv_iconst (v := mI 1) hx hb dX12_reckons_199 rfl ?_
            refine r_isub X dX12_reckons_200 ?_
            refine lv_iload hx hb dX12_reckons_201 (lv_at hl 1 rfl) ?_
            refine lv_aload_n hx hb dX12_reckons_203 rfl (lv_at hl 2 rfl) ?_
            refine r_getr 119 X hw sh_86 fd_12_55 rfl rfl lf_X12_180 dX12_reckons_204 ?_
            refine lv_iload_n hx hb dX12_reckons_207 rfl (lv_at hl 0 rfl) ?_
            refine lv_iconst (v := mI 1) hx hb dX12_reckons_208 rfl ?_
            refine r_isub X dX12_reckons_209 ?_
            refine r_lald (500 : Int) rfl X hw sh_119 dX12_reckons_210 hf (fun hf => ?_)
            refine lv_aload_n hx hb dX12_reckons_211 rfl (lv_at hl 2 rfl) ?_
            refine r_getr 119 X hw sh_86 fd_12_55 rfl rfl lf_X12_180 dX12_reckons_212 ?_
            refine lv_iload_n hx hb dX12_reckons_215 rfl (lv_at hl 0 rfl) ?_
            refine r_lald (500 : Int) rfl X hw sh_119 dX12_reckons_216 hf (fun hf => ?_)
            refine r_csl (rest := [.int (mI ((x2 + (-1)) - 1)), .ref (ad 119)]) [.int (mI y102), .long (mL (σ 119 (mw ((x2 + (-1)) - 1)).toNat)), .long (mL (σ 119 (mw (x2 + (-1))).toNat))] X hw (fun ra σa h => c_X12_two l D cy ad bs F y102 (σ 119 (mw ((x2 + (-1)) - 1)).toNat) (σ 119 (mw (x2 + (-1))).toNat) σ ra σa  h) km_X12_two ks_X12_two lm_X12_436 dX12_reckons_217 hl.1 rfl rfl (Nat.le_of_ble_eq_true rfl) ⟨by decide, by decide⟩ ⟨Nat.zero_le _, Nat.zero_le _⟩ hf (fun r103 σ104 _ hf H locs hw => ?_)
            refine r_last (500 : Int) rfl X hw sh_119 dX12_reckons_220 hf (fun hf H locs hw => ?_)
            refine r_mem hf hw (fun σ105 hw hf => ?_)
            exact w_X12_reckons_b221 X hk25 hw (lv_sub hl [2, 3, 0, 4] rfl) hf
          · refine lv_iinc (v := mI (x2 + (-2))) (lv' := [(2, .int (mI (x2 + (-2)))), (4, .int (mI y102)), (0, .ref (ad 86)), (1, .int (mI x1)), (3, .int (mI x3))]) hx hb dX12_reckons_147 hl (k := 3) rfl (mI_add _ _) (by decide) rfl (fun ls hl => ?_)
            refine lv_aload_n hx hb dX12_reckons_150 rfl (lv_at hl 2 rfl) ?_
            refine r_getr 119 X hw sh_86 fd_12_55 rfl rfl lf_X12_180 dX12_reckons_151 ?_
            refine lv_iload_n hx hb dX12_reckons_154 rfl (lv_at hl 0 rfl) ?_
            refine lv_iconst (v := mI 1) hx hb dX12_reckons_155 rfl ?_
            refine r_isub X dX12_reckons_156 ?_
            refine lv_aload_n hx hb dX12_reckons_157 rfl (lv_at hl 2 rfl) ?_
            refine r_getr 119 X hw sh_86 fd_12_55 rfl rfl lf_X12_180 dX12_reckons_158 ?_
            refine lv_iload_n hx hb dX12_reckons_161 rfl (lv_at hl 0 rfl) ?_
            refine lv_iconst (v := mI 1) hx hb dX12_reckons_162 rfl ?_
            refine r_isub X dX12_reckons_163 ?_
            refine r_lald (500 : Int) rfl X hw sh_119 dX12_reckons_164 hf (fun hf => ?_)
            refine lv_lconst (v := mL 1) hx hb dX12_reckons_165 (by decide) ?_
            refine r_lcmp_ne (tgt := 179) X dX12_reckons_166 dX12_reckons_167 (by decide) hf (fun hc hf => ?_) (fun hc hf => ?_)
            · refine lv_aload_n hx hb dX12_reckons_179 rfl (lv_at hl 2 rfl) ?_
              refine r_getr 119 X hw sh_86 fd_12_55 rfl rfl lf_X12_180 dX12_reckons_180 ?_
              refine lv_iload_n hx hb dX12_reckons_183 rfl (lv_at hl 0 rfl) ?_
              refine lv_iconst (v := mI 1) hx hb dX12_reckons_184 rfl ?_
              refine r_iadd X dX12_reckons_185 ?_
              refine r_lald (500 : Int) rfl X hw sh_119 dX12_reckons_186 hf (fun hf => ?_)
              exact w_X12_reckons_b187 X hk25 hw (lv_sub hl [2, 3, 0, 4] rfl) hf
            · refine lv_aload_n hx hb dX12_reckons_170 rfl (lv_at hl 2 rfl) ?_
              refine r_getr 119 X hw sh_86 fd_12_55 rfl rfl lf_X12_180 dX12_reckons_171 ?_
              refine lv_iload_n hx hb dX12_reckons_174 rfl (lv_at hl 0 rfl) ?_
              refine r_lald (500 : Int) rfl X hw sh_119 dX12_reckons_175 hf (fun hf => ?_)
              refine lv_goto (tgt := 187) hx hb dX12_reckons_176 (by decide) ?_
              exact w_X12_reckons_b187 X hk25 hw (lv_sub hl [2, 3, 0, 4] rfl) hf
        · refine lv_aload_n hx hb dX12_reckons_119 rfl (lv_at hl 1 rfl) ?_
          refine r_getr 119 X hw sh_86 fd_12_55 rfl rfl lf_X12_180 dX12_reckons_120 ?_
          refine lv_iload_n hx hb dX12_reckons_123 rfl (lv_at hl 3 rfl) ?_
          refine lv_iconst (v := mI 1) hx hb dX12_reckons_124 rfl ?_
          refine r_isub X dX12_reckons_125 ?_
          refine lv_lconst (v := mL 1) hx hb dX12_reckons_126 (by decide) ?_
          refine lv_aload_n hx hb dX12_reckons_127 rfl (lv_at hl 1 rfl) ?_
          refine r_getr 119 X hw sh_86 fd_12_55 rfl rfl lf_X12_180 dX12_reckons_128 ?_
          refine lv_iload_n hx hb dX12_reckons_131 rfl (lv_at hl 3 rfl) ?_
          refine lv_iconst (v := mI 1) hx hb dX12_reckons_132 rfl ?_
          refine r_isub X dX12_reckons_133 ?_
          refine r_lald (500 : Int) rfl X hw sh_119 dX12_reckons_134 hf (fun hf => ?_)
          refine r_lsub X dX12_reckons_135 ?_
          refine r_last (500 : Int) rfl X hw sh_119 dX12_reckons_136 hf (fun hf H locs hw => ?_)
          refine r_mem hf hw (fun σ106 hw hf => ?_)
          refine lv_goto (tgt := 221) hx hb dX12_reckons_137 (by decide) ?_
          exact w_X12_reckons_b221 X hk25 hw (lv_sub hl [1, 2, 3, 4] rfl) hf
      · refine lv_aload_n hx hb dX12_reckons_66 rfl (lv_at hl 1 rfl) ?_
        refine r_getr 119 X hw sh_86 fd_12_55 rfl rfl lf_X12_180 dX12_reckons_67 ?_
        refine lv_iload_n hx hb dX12_reckons_70 rfl (lv_at hl 3 rfl) ?_
        refine lv_iload hx hb dX12_reckons_71 (lv_at hl 0 rfl) ?_
        refine r_if_ne (tgt := 86) X dX12_reckons_73 (by decide) hf (fun hc hf => ?_) (fun hc hf => ?_)
        · refine lv_iload hx hb dX12_reckons_86 (lv_at hl 0 rfl) ?_
          refine lv_bipush (v := mI 30) hx hb dX12_reckons_88 (by decide) ?_
          refine r_icmp_ne (tgt := 97) X dX12_reckons_90 (by decide) hf (fun hc hf => ?_) (fun hc hf => ?_)
          · refine lv_aload_n hx hb dX12_reckons_97 rfl (lv_at hl 1 rfl) ?_
            refine r_getr 120 X hw sh_86 fd_12_56 rfl rfl lf_X12_183 dX12_reckons_98 ?_
            refine lv_iload hx hb dX12_reckons_101 (lv_at hl 0 rfl) ?_
            refine r_iald (12 : Int) rfl X hw sh_120 dX12_reckons_103 hf (fun hf => ?_)
            refine r_i2l X dX12_reckons_104 ?_
            exact w_X12_reckons_b105 X hk25 hw (lv_sub hl [1, 2, 3, 4] rfl) hf
          · refine lv_lconst (v := mL 1) hx hb dX12_reckons_93 (by decide) ?_
            refine lv_goto (tgt := 105) hx hb dX12_reckons_94 (by decide) ?_
            exact w_X12_reckons_b105 X hk25 hw (lv_sub hl [1, 2, 3, 4] rfl) hf
        · refine lv_aload_n hx hb dX12_reckons_76 rfl (lv_at hl 1 rfl) ?_
          refine r_getr 101 X hw sh_86 fd_12_27 rfl rfl lf_X12_93 dX12_reckons_77 ?_
          refine lv_iload_n hx hb dX12_reckons_80 rfl (lv_at hl 4 rfl) ?_
          refine r_iald (3200 : Int) rfl X hw sh_101 dX12_reckons_81 hf (fun hf => ?_)
          refine r_i2l X dX12_reckons_82 ?_
          refine lv_goto (tgt := 105) hx hb dX12_reckons_83 (by decide) ?_
          exact w_X12_reckons_b105 X hk25 hw (lv_sub hl [1, 2, 3, 4] rfl) hf
def g_X12_reckons (F : Nat) (x1 : Int) (σ : mMem) : mRs := if 0 ≤ mw ((2 * (σ 86 13)) + x1) ∧ mw ((2 * (σ 86 13)) + x1) < (4 : Int) then mlet ((1600 * (σ 86 13)) + (σ 98 (mw ((2 * (σ 86 13)) + x1)).toNat)) (fun y1 => g_X12_reckons_h25 F F x1 0 y1 σ) else none
set_option maxRecDepth 100000 in
set_option maxHeartbeats 4000000 in
theorem c_X12_reckons (l : Launch) (D : va_G) (cy : Nat → ClassId) (ad : Nat → Nat) (bs : Nat) (F : Nat)  (x1 : Int) (σ : mMem) (r : Int) (σ' : mMem)  (hf : g_X12_reckons F x1 σ = some (r, σ')) : mCl l D cy ad bs yX12_reckons cX12_reckons 5 (some .long) 3 [.ref (ad 86), .int (mI x1)] σ r σ' := by
  refine mCl.of (lv := [(0, .ref (ad 86)), (1, .int (mI x1))]) km_X12_reckons.2.2.2.2.2 (Nat.le_of_ble_eq_true rfl) rfl (fun p e s m args below meth c H locs ls X hw hl => ?_)
  obtain ⟨⟨hx, hb, -, -, -⟩, -⟩ := id X
  unfold g_X12_reckons at hf
  refine lv_iconst (v := mI 0) hx hb dX12_reckons_0 rfl ?_
  refine lv_istore_n (lv' := [(2, .int (mI 0)), (0, .ref (ad 86)), (1, .int (mI x1))]) hx hb dX12_reckons_1 rfl hl (by decide) rfl (fun ls hl => ?_)
  refine lv_sipush (v := mI 1600) hx hb dX12_reckons_2 (by decide) ?_
  refine lv_aload_n hx hb dX12_reckons_5 rfl (lv_at hl 1 rfl) ?_
  refine r_geti X hw sh_86 fd_12_13 rfl lf_X12_51 dX12_reckons_6 ?_
  refine r_imul X dX12_reckons_9 ?_
  refine lv_aload_n hx hb dX12_reckons_10 rfl (lv_at hl 1 rfl) ?_
  refine r_getr 98 X hw sh_86 fd_12_24 rfl rfl lf_X12_84 dX12_reckons_11 ?_
  refine lv_iconst (v := mI 2) hx hb dX12_reckons_14 rfl ?_
  refine lv_aload_n hx hb dX12_reckons_15 rfl (lv_at hl 1 rfl) ?_
  refine r_geti X hw sh_86 fd_12_13 rfl lf_X12_51 dX12_reckons_16 ?_
  refine r_imul X dX12_reckons_19 ?_
  refine lv_iload_n hx hb dX12_reckons_20 rfl (lv_at hl 2 rfl) ?_
  refine r_iadd X dX12_reckons_21 ?_
  refine r_iald (4 : Int) rfl X hw sh_98 dX12_reckons_22 hf (fun hf => ?_)
  refine r_iadd X dX12_reckons_23 ?_
  refine r_leti hf (fun y1 hf => ?_)
  refine lv_istore_n (lv' := [(3, .int (mI y1)), (2, .int (mI 0)), (0, .ref (ad 86)), (1, .int (mI x1))]) hx hb dX12_reckons_24 rfl hl (by decide) rfl (fun ls hl => ?_)
  exact w_X12_reckons_h25 X _ hw (lv_sub hl [2, 3, 1, 0] rfl) hf
def g_X12_isTold_b22 (F : Nat)  (t0 : Int) (σ : mMem) : mRs := if mw t0 = 0 ∨ mw t0 = 1 then some (t0, σ) else none
set_option maxRecDepth 100000 in
set_option maxHeartbeats 4000000 in
theorem w_X12_isTold_b22 {p : Program} {l : Launch} {e : Env} {s : State} {m : MethodId} {args : Array Value} {below : List Frame} {meth : Method} {c : Code} {D : va_G} {cy : Nat → ClassId} {ad : Nat → Nat} {bs : Nat} {F : Nat}  (X : mCx p m c cX12_isTold 2 s args RX12 meth D cy (some .boolean))  {r : Int} {σ' : mMem}   {t0 : Int} {σ : mMem} {H : Heap} {locs : List Loc} {ls : Array Slot} (hw : mWd D cy ad bs true mN σ s.heap H locs) (hl : lv_has ls 2 [(0, .ref (ad 86))]) (hf : g_X12_isTold_b22 F t0 σ = some (r, σ')) : mGi p l e 1 s m args below meth c D cy ad bs r σ' H locs (F0 m 22 ls [.int (mI t0)]) := by
  obtain ⟨⟨hx, hb, -, -, -⟩, -⟩ := id X
  unfold g_X12_isTold_b22 at hf
  exact r_zret X hw dX12_isTold_22 hf
def g_X12_isTold (F : Nat) (x1 : Int) (σ : mMem) : mRs := if 0 ≤ mw ((2 * (σ 86 13)) + x1) ∧ mw ((2 * (σ 86 13)) + x1) < (4 : Int) then if mw (σ 98 (mw ((2 * (σ 86 13)) + x1)).toNat) = mw (-1) then (g_X12_isTold_b22 F 0 σ) else (g_X12_isTold_b22 F 1 σ) else none
set_option maxRecDepth 100000 in
set_option maxHeartbeats 4000000 in
theorem c_X12_isTold (l : Launch) (D : va_G) (cy : Nat → ClassId) (ad : Nat → Nat) (bs : Nat) (F : Nat)  (x1 : Int) (σ : mMem) (r : Int) (σ' : mMem)  (hf : g_X12_isTold F x1 σ = some (r, σ')) : mCi l D cy ad bs yX12_isTold cX12_isTold 2 (some .boolean) 1 [.ref (ad 86), .int (mI x1)] σ r σ' := by
  refine mCi.of (lv := [(0, .ref (ad 86)), (1, .int (mI x1))]) km_X12_isTold.2.2.2.2.2 (Nat.le_of_ble_eq_true rfl) rfl (fun p e s m args below meth c H locs ls X hw hl => ?_)
  obtain ⟨⟨hx, hb, -, -, -⟩, -⟩ := id X
  unfold g_X12_isTold at hf
  refine lv_aload_n hx hb dX12_isTold_0 rfl (lv_at hl 0 rfl) ?_
  refine r_getr 98 X hw sh_86 fd_12_24 rfl rfl lf_X12_84 dX12_isTold_1 ?_
  refine lv_iconst (v := mI 2) hx hb dX12_isTold_4 rfl ?_
  refine lv_aload_n hx hb dX12_isTold_5 rfl (lv_at hl 0 rfl) ?_
  refine r_geti X hw sh_86 fd_12_13 rfl lf_X12_51 dX12_isTold_6 ?_
  refine r_imul X dX12_isTold_9 ?_
  refine lv_iload_n hx hb dX12_isTold_10 rfl (lv_at hl 1 rfl) ?_
  refine r_iadd X dX12_isTold_11 ?_
  refine r_iald (4 : Int) rfl X hw sh_98 dX12_isTold_12 hf (fun hf => ?_)
  refine lv_iconst (v := mI (-1)) hx hb dX12_isTold_13 rfl ?_
  refine r_icmp_eq (tgt := 21) X dX12_isTold_14 (by decide) hf (fun hc hf => ?_) (fun hc hf => ?_)
  · refine lv_iconst (v := mI 0) hx hb dX12_isTold_21 rfl ?_
    exact w_X12_isTold_b22 X hw (lv_sub hl [0] rfl) hf
  · refine lv_iconst (v := mI 1) hx hb dX12_isTold_17 rfl ?_
    refine lv_goto (tgt := 22) hx hb dX12_isTold_18 (by decide) ?_
    exact w_X12_isTold_b22 X hw (lv_sub hl [0] rfl) hf
def g_X12_isOn_b43 (F : Nat)  (t0 : Int) (σ : mMem) : mRs := if mw t0 = 0 ∨ mw t0 = 1 then some (t0, σ) else none
set_option maxRecDepth 100000 in
set_option maxHeartbeats 4000000 in
theorem w_X12_isOn_b43 {p : Program} {l : Launch} {e : Env} {s : State} {m : MethodId} {args : Array Value} {below : List Frame} {meth : Method} {c : Code} {D : va_G} {cy : Nat → ClassId} {ad : Nat → Nat} {bs : Nat} {F : Nat}  (X : mCx p m c cX12_isOn 3 s args RX12 meth D cy (some .boolean))  {r : Int} {σ' : mMem}   {t0 : Int} {σ : mMem} {H : Heap} {locs : List Loc} {ls : Array Slot} (hw : mWd D cy ad bs true mN σ s.heap H locs) (hl : lv_has ls 3 [(0, .ref (ad 86))]) (hf : g_X12_isOn_b43 F t0 σ = some (r, σ')) : mGi p l e 2 s m args below meth c D cy ad bs r σ' H locs (F0 m 43 ls [.int (mI t0)]) := by
  obtain ⟨⟨hx, hb, -, -, -⟩, -⟩ := id X
  unfold g_X12_isOn_b43 at hf
  exact r_zret X hw dX12_isOn_43 hf
def g_X12_isOn_b42 (F : Nat)  (σ : mMem) : mRs := g_X12_isOn_b43 F 0 σ
set_option maxRecDepth 100000 in
set_option maxHeartbeats 4000000 in
theorem w_X12_isOn_b42 {p : Program} {l : Launch} {e : Env} {s : State} {m : MethodId} {args : Array Value} {below : List Frame} {meth : Method} {c : Code} {D : va_G} {cy : Nat → ClassId} {ad : Nat → Nat} {bs : Nat} {F : Nat}  (X : mCx p m c cX12_isOn 3 s args RX12 meth D cy (some .boolean))  {r : Int} {σ' : mMem}    {σ : mMem} {H : Heap} {locs : List Loc} {ls : Array Slot} (hw : mWd D cy ad bs true mN σ s.heap H locs) (hl : lv_has ls 3 [(0, .ref (ad 86))]) (hf : g_X12_isOn_b42 F  σ = some (r, σ')) : mGi p l e 2 s m args below meth c D cy ad bs r σ' H locs (F0 m 42 ls []) := by
  obtain ⟨⟨hx, hb, -, -, -⟩, -⟩ := id X
  unfold g_X12_isOn_b42 at hf
  refine lv_iconst (v := mI 0) hx hb dX12_isOn_42 rfl ?_
  exact w_X12_isOn_b43 X hw (lv_sub hl [0] rfl) hf
def g_X12_isOn (F : Nat) (x1 x2 : Int) (σ : mMem) : mRs := if 0 ≤ mw (σ 86 13) ∧ mw (σ 86 13) < (2 : Int) then mob (g_X12_is F x1 0 ((σ 88 (mw (σ 86 13)).toNat) - 1) σ) (fun r1 σ2 => if mw r1 = 0 then (g_X12_isOn_b42 F σ2) else (if 0 ≤ mw (σ2 86 13) ∧ mw (σ2 86 13) < (2 : Int) then mob (g_X12_is F x2 0 ((σ2 89 (mw (σ2 86 13)).toNat) - 1) σ2) (fun r3 σ4 => if mw r3 = 0 then (g_X12_isOn_b42 F σ4) else (g_X12_isOn_b43 F 1 σ4)) else none)) else none
set_option maxRecDepth 100000 in
set_option maxHeartbeats 4000000 in
theorem c_X12_isOn (l : Launch) (D : va_G) (cy : Nat → ClassId) (ad : Nat → Nat) (bs : Nat) (F : Nat)  (x1 x2 : Int) (σ : mMem) (r : Int) (σ' : mMem)  (hf : g_X12_isOn F x1 x2 σ = some (r, σ')) : mCi l D cy ad bs yX12_isOn cX12_isOn 3 (some .boolean) 2 [.ref (ad 86), .int (mI x1), .int (mI x2)] σ r σ' := by
  refine mCi.of (lv := [(0, .ref (ad 86)), (1, .int (mI x1)), (2, .int (mI x2))]) km_X12_isOn.2.2.2.2.2 (Nat.le_of_ble_eq_true rfl) rfl (fun p e s m args below meth c H locs ls X hw hl => ?_)
  obtain ⟨⟨hx, hb, -, -, -⟩, -⟩ := id X
  unfold g_X12_isOn at hf
  refine lv_iload_n hx hb dX12_isOn_0 rfl (lv_at hl 1 rfl) ?_
  refine lv_iconst (v := mI 0) hx hb dX12_isOn_1 rfl ?_
  refine lv_aload_n hx hb dX12_isOn_2 rfl (lv_at hl 0 rfl) ?_
  refine r_getr 88 X hw sh_86 fd_12_14 rfl rfl lf_X12_54 dX12_isOn_3 ?_
  refine lv_aload_n hx hb dX12_isOn_6 rfl (lv_at hl 0 rfl) ?_
  refine r_geti X hw sh_86 fd_12_13 rfl lf_X12_51 dX12_isOn_7 ?_
  refine r_iald (2 : Int) rfl X hw sh_88 dX12_isOn_10 hf (fun hf => ?_)
  refine lv_iconst (v := mI 1) hx hb dX12_isOn_11 rfl ?_
  refine r_isub X dX12_isOn_12 ?_
  refine r_csi (rest := []) [.int (mI x1), .int (mI 0), .int (mI ((σ 88 (mw (σ 86 13)).toNat) - 1))] X hw (fun ra σa h => c_X12_is l D cy ad bs F x1 0 ((σ 88 (mw (σ 86 13)).toNat) - 1) σ ra σa  h) km_X12_is ks_X12_is lm_X12_318 dX12_isOn_13 hl.1 rfl rfl (Nat.le_of_ble_eq_true rfl) ⟨by decide, by decide⟩ ⟨Nat.zero_le _, Nat.zero_le _⟩ hf (fun r1 σ2 _ hf H locs hw => ?_)
  refine r_if_eq (tgt := 42) X dX12_isOn_16 (by decide) hf (fun hc hf => ?_) (fun hc hf => ?_)
  · exact w_X12_isOn_b42 X hw (lv_sub hl [0] rfl) hf
  · refine lv_iload_n hx hb dX12_isOn_19 rfl (lv_at hl 2 rfl) ?_
    refine lv_iconst (v := mI 0) hx hb dX12_isOn_20 rfl ?_
    refine lv_aload_n hx hb dX12_isOn_21 rfl (lv_at hl 0 rfl) ?_
    refine r_getr 89 X hw sh_86 fd_12_15 rfl rfl lf_X12_57 dX12_isOn_22 ?_
    refine lv_aload_n hx hb dX12_isOn_25 rfl (lv_at hl 0 rfl) ?_
    refine r_geti X hw sh_86 fd_12_13 rfl lf_X12_51 dX12_isOn_26 ?_
    refine r_iald (2 : Int) rfl X hw sh_89 dX12_isOn_29 hf (fun hf => ?_)
    refine lv_iconst (v := mI 1) hx hb dX12_isOn_30 rfl ?_
    refine r_isub X dX12_isOn_31 ?_
    refine r_csi (rest := []) [.int (mI x2), .int (mI 0), .int (mI ((σ2 89 (mw (σ2 86 13)).toNat) - 1))] X hw (fun ra σa h => c_X12_is l D cy ad bs F x2 0 ((σ2 89 (mw (σ2 86 13)).toNat) - 1) σ2 ra σa  h) km_X12_is ks_X12_is lm_X12_318 dX12_isOn_32 hl.1 rfl rfl (Nat.le_of_ble_eq_true rfl) ⟨by decide, by decide⟩ ⟨Nat.zero_le _, Nat.zero_le _⟩ hf (fun r3 σ4 _ hf H locs hw => ?_)
    refine r_if_eq (tgt := 42) X dX12_isOn_35 (by decide) hf (fun hc hf => ?_) (fun hc hf => ?_)
    · exact w_X12_isOn_b42 X hw (lv_sub hl [0] rfl) hf
    · refine lv_iconst (v := mI 1) hx hb dX12_isOn_38 rfl ?_
      refine lv_goto (tgt := 43) hx hb dX12_isOn_39 (by decide) ?_
      exact w_X12_isOn_b43 X hw (lv_sub hl [0] rfl) hf
def g_X12_columnBy_b19 (F : Nat)  (t0 : Int) (σ : mMem) : mRs := some (t0, σ)
set_option maxRecDepth 100000 in
set_option maxHeartbeats 4000000 in
theorem w_X12_columnBy_b19 {p : Program} {l : Launch} {e : Env} {s : State} {m : MethodId} {args : Array Value} {below : List Frame} {meth : Method} {c : Code} {D : va_G} {cy : Nat → ClassId} {ad : Nat → Nat} {bs : Nat} {F : Nat}  (X : mCx p m c cX12_columnBy 1 s args RX12 meth D cy (some .int))  {r : Int} {σ' : mMem}   {t0 : Int} {σ : mMem} {H : Heap} {locs : List Loc} {ls : Array Slot} (hw : mWd D cy ad bs true mN σ s.heap H locs) (hl : lv_has ls 1 []) (hf : g_X12_columnBy_b19 F t0 σ = some (r, σ')) : mGi p l e 1 s m args below meth c D cy ad bs r σ' H locs (F0 m 19 ls [.int (mI t0)]) := by
  obtain ⟨⟨hx, hb, -, -, -⟩, -⟩ := id X
  unfold g_X12_columnBy_b19 at hf
  exact r_iret X hw dX12_columnBy_19 hf
def g_X12_columnBy (F : Nat) (x0 : Int) (σ : mMem) : mRs := if ¬ mw x0 = mw 1 then (if ¬ mw x0 = mw 3 then (g_X12_columnBy_b19 F 0 σ) else (g_X12_columnBy_b19 F (-1) σ)) else (g_X12_columnBy_b19 F 1 σ)
set_option maxRecDepth 100000 in
set_option maxHeartbeats 4000000 in
theorem c_X12_columnBy (l : Launch) (D : va_G) (cy : Nat → ClassId) (ad : Nat → Nat) (bs : Nat) (F : Nat)  (x0 : Int) (σ : mMem) (r : Int) (σ' : mMem)  (hf : g_X12_columnBy F x0 σ = some (r, σ')) : mCi l D cy ad bs yX12_columnBy cX12_columnBy 1 (some .int) 1 [.int (mI x0)] σ r σ' := by
  refine mCi.of (lv := [(0, .int (mI x0))]) km_X12_columnBy.2.2.2.2.2 (Nat.le_of_ble_eq_true rfl) rfl (fun p e s m args below meth c H locs ls X hw hl => ?_)
  obtain ⟨⟨hx, hb, -, -, -⟩, -⟩ := id X
  unfold g_X12_columnBy at hf
  refine lv_iload_n hx hb dX12_columnBy_0 rfl (lv_at hl 0 rfl) ?_
  refine lv_iconst (v := mI 1) hx hb dX12_columnBy_1 rfl ?_
  refine r_icmp_ne (tgt := 9) X dX12_columnBy_2 (by decide) hf (fun hc hf => ?_) (fun hc hf => ?_)
  · refine lv_iload_n hx hb dX12_columnBy_9 rfl (lv_at hl 0 rfl) ?_
    refine lv_iconst (v := mI 3) hx hb dX12_columnBy_10 rfl ?_
    refine r_icmp_ne (tgt := 18) X dX12_columnBy_11 (by decide) hf (fun hc hf => ?_) (fun hc hf => ?_)
    · refine lv_iconst (v := mI 0) hx hb dX12_columnBy_18 rfl ?_
      exact w_X12_columnBy_b19 X hw (lv_sub hl [] rfl) hf
    · refine lv_iconst (v := mI (-1)) hx hb dX12_columnBy_14 rfl ?_
      refine lv_goto (tgt := 19) hx hb dX12_columnBy_15 (by decide) ?_
      exact w_X12_columnBy_b19 X hw (lv_sub hl [] rfl) hf
  · refine lv_iconst (v := mI 1) hx hb dX12_columnBy_5 rfl ?_
    refine lv_goto (tgt := 19) hx hb dX12_columnBy_6 (by decide) ?_
    exact w_X12_columnBy_b19 X hw (lv_sub hl [] rfl) hf
def g_X12_rowBy_b18 (F : Nat)  (t0 : Int) (σ : mMem) : mRs := some (t0, σ)
set_option maxRecDepth 100000 in
set_option maxHeartbeats 4000000 in
theorem w_X12_rowBy_b18 {p : Program} {l : Launch} {e : Env} {s : State} {m : MethodId} {args : Array Value} {below : List Frame} {meth : Method} {c : Code} {D : va_G} {cy : Nat → ClassId} {ad : Nat → Nat} {bs : Nat} {F : Nat}  (X : mCx p m c cX12_rowBy 1 s args RX12 meth D cy (some .int))  {r : Int} {σ' : mMem}   {t0 : Int} {σ : mMem} {H : Heap} {locs : List Loc} {ls : Array Slot} (hw : mWd D cy ad bs true mN σ s.heap H locs) (hl : lv_has ls 1 []) (hf : g_X12_rowBy_b18 F t0 σ = some (r, σ')) : mGi p l e 1 s m args below meth c D cy ad bs r σ' H locs (F0 m 18 ls [.int (mI t0)]) := by
  obtain ⟨⟨hx, hb, -, -, -⟩, -⟩ := id X
  unfold g_X12_rowBy_b18 at hf
  exact r_iret X hw dX12_rowBy_18 hf
def g_X12_rowBy (F : Nat) (x0 : Int) (σ : mMem) : mRs := if ¬ mw x0 = mw 2 then (if ¬ mw x0 = 0 then (g_X12_rowBy_b18 F 0 σ) else (g_X12_rowBy_b18 F (-1) σ)) else (g_X12_rowBy_b18 F 1 σ)
set_option maxRecDepth 100000 in
set_option maxHeartbeats 4000000 in
theorem c_X12_rowBy (l : Launch) (D : va_G) (cy : Nat → ClassId) (ad : Nat → Nat) (bs : Nat) (F : Nat)  (x0 : Int) (σ : mMem) (r : Int) (σ' : mMem)  (hf : g_X12_rowBy F x0 σ = some (r, σ')) : mCi l D cy ad bs yX12_rowBy cX12_rowBy 1 (some .int) 1 [.int (mI x0)] σ r σ' := by
  refine mCi.of (lv := [(0, .int (mI x0))]) km_X12_rowBy.2.2.2.2.2 (Nat.le_of_ble_eq_true rfl) rfl (fun p e s m args below meth c H locs ls X hw hl => ?_)
  obtain ⟨⟨hx, hb, -, -, -⟩, -⟩ := id X
  unfold g_X12_rowBy at hf
  refine lv_iload_n hx hb dX12_rowBy_0 rfl (lv_at hl 0 rfl) ?_
  refine lv_iconst (v := mI 2) hx hb dX12_rowBy_1 rfl ?_
  refine r_icmp_ne (tgt := 9) X dX12_rowBy_2 (by decide) hf (fun hc hf => ?_) (fun hc hf => ?_)
  · refine lv_iload_n hx hb dX12_rowBy_9 rfl (lv_at hl 0 rfl) ?_
    refine r_if_ne (tgt := 17) X dX12_rowBy_10 (by decide) hf (fun hc hf => ?_) (fun hc hf => ?_)
    · refine lv_iconst (v := mI 0) hx hb dX12_rowBy_17 rfl ?_
      exact w_X12_rowBy_b18 X hw (lv_sub hl [] rfl) hf
    · refine lv_iconst (v := mI (-1)) hx hb dX12_rowBy_13 rfl ?_
      refine lv_goto (tgt := 18) hx hb dX12_rowBy_14 (by decide) ?_
      exact w_X12_rowBy_b18 X hw (lv_sub hl [] rfl) hf
  · refine lv_iconst (v := mI 1) hx hb dX12_rowBy_5 rfl ?_
    refine lv_goto (tgt := 18) hx hb dX12_rowBy_6 (by decide) ?_
    exact w_X12_rowBy_b18 X hw (lv_sub hl [] rfl) hf
def g_X12_off_b74 (F : Nat)  (t0 : Int) (σ : mMem) : mRs := some (t0, σ)
set_option maxRecDepth 100000 in
set_option maxHeartbeats 4000000 in
theorem w_X12_off_b74 {p : Program} {l : Launch} {e : Env} {s : State} {m : MethodId} {args : Array Value} {below : List Frame} {meth : Method} {c : Code} {D : va_G} {cy : Nat → ClassId} {ad : Nat → Nat} {bs : Nat} {F : Nat}  (X : mCx p m c cX12_off 8 s args RX12 meth D cy (some .int))  {r : Int} {σ' : mMem}   {t0 : Int} {σ : mMem} {H : Heap} {locs : List Loc} {ls : Array Slot} (hw : mWd D cy ad bs true mN σ s.heap H locs) (hl : lv_has ls 8 [(0, .ref (ad 86))]) (hf : g_X12_off_b74 F t0 σ = some (r, σ')) : mGi p l e 3 s m args below meth c D cy ad bs r σ' H locs (F0 m 74 ls [.int (mI t0)]) := by
  obtain ⟨⟨hx, hb, -, -, -⟩, -⟩ := id X
  unfold g_X12_off_b74 at hf
  exact r_iret X hw dX12_off_74 hf
def g_X12_off (F : Nat) (x1 x2 x3 x4 : Int) (σ : mMem) : mRs := if mw 4 = 0 then none else (mlet ((mw (x2 + 1)).tmod (mw 4)) (fun y1 => if mw 9 = 0 then none else (mob (g_X12_columnBy F x2 σ) (fun r2 σ3 => mob (g_X12_columnBy F y1 σ3) (fun r4 σ5 => mlet ((((mw x1).tmod (mw 9)) + (x3 * r2)) + (x4 * r4)) (fun y6 => if mw 9 = 0 then none else (mob (g_X12_rowBy F x2 σ5) (fun r7 σ8 => mob (g_X12_rowBy F y1 σ8) (fun r9 σ10 => mlet ((((mw x1).tdiv (mw 9)) + (x3 * r7)) + (x4 * r9)) (fun y11 => mob (g_X12_isOn F y6 y11 σ10) (fun r12 σ13 => if mw r12 = 0 then (g_X12_off_b74 F (-1) σ13) else (g_X12_off_b74 F ((9 * y11) + y6) σ13))))))))))))
set_option maxRecDepth 100000 in
set_option maxHeartbeats 4000000 in
theorem c_X12_off (l : Launch) (D : va_G) (cy : Nat → ClassId) (ad : Nat → Nat) (bs : Nat) (F : Nat)  (x1 x2 x3 x4 : Int) (σ : mMem) (r : Int) (σ' : mMem)  (hf : g_X12_off F x1 x2 x3 x4 σ = some (r, σ')) : mCi l D cy ad bs yX12_off cX12_off 8 (some .int) 3 [.ref (ad 86), .int (mI x1), .int (mI x2), .int (mI x3), .int (mI x4)] σ r σ' := by
  refine mCi.of (lv := [(0, .ref (ad 86)), (1, .int (mI x1)), (2, .int (mI x2)), (3, .int (mI x3)), (4, .int (mI x4))]) km_X12_off.2.2.2.2.2 (Nat.le_of_ble_eq_true rfl) rfl (fun p e s m args below meth c H locs ls X hw hl => ?_)
  obtain ⟨⟨hx, hb, -, -, -⟩, -⟩ := id X
  unfold g_X12_off at hf
  refine lv_iload_n hx hb dX12_off_0 rfl (lv_at hl 2 rfl) ?_
  refine lv_iconst (v := mI 1) hx hb dX12_off_1 rfl ?_
  refine r_iadd X dX12_off_2 ?_
  refine lv_iconst (v := mI 4) hx hb dX12_off_3 rfl ?_
  refine r_irem X dX12_off_4 hf (fun hf => ?_)
  refine r_leti hf (fun y1 hf => ?_)
  refine lv_istore (lv' := [(5, .int (mI y1)), (0, .ref (ad 86)), (1, .int (mI x1)), (2, .int (mI x2)), (3, .int (mI x3)), (4, .int (mI x4))]) hx hb dX12_off_5 hl (by decide) rfl (fun ls hl => ?_)
  refine lv_iload_n hx hb dX12_off_7 rfl (lv_at hl 2 rfl) ?_
  refine lv_bipush (v := mI 9) hx hb dX12_off_8 (by decide) ?_
  refine r_irem X dX12_off_10 hf (fun hf => ?_)
  refine lv_iload_n hx hb dX12_off_11 rfl (lv_at hl 4 rfl) ?_
  refine lv_iload_n hx hb dX12_off_12 rfl (lv_at hl 3 rfl) ?_
  refine r_csi (rest := [.int (mI x3), .int (mI ((mw x1).tmod (mw 9)))]) [.int (mI x2)] X hw (fun ra σa h => c_X12_columnBy l D cy ad bs F x2 σ ra σa  h) km_X12_columnBy ks_X12_columnBy lm_X12_440 dX12_off_13 hl.1 rfl rfl (Nat.le_of_ble_eq_true rfl) ⟨by decide, by decide⟩ ⟨Nat.zero_le _, Nat.zero_le _⟩ hf (fun r2 σ3 _ hf H locs hw => ?_)
  refine r_imul X dX12_off_16 ?_
  refine r_iadd X dX12_off_17 ?_
  refine lv_iload hx hb dX12_off_18 (lv_at hl 5 rfl) ?_
  refine lv_iload hx hb dX12_off_20 (lv_at hl 0 rfl) ?_
  refine r_csi (rest := [.int (mI x4), .int (mI (((mw x1).tmod (mw 9)) + (x3 * r2)))]) [.int (mI y1)] X hw (fun ra σa h => c_X12_columnBy l D cy ad bs F y1 σ3 ra σa  h) km_X12_columnBy ks_X12_columnBy lm_X12_440 dX12_off_22 hl.1 rfl rfl (Nat.le_of_ble_eq_true rfl) ⟨by decide, by decide⟩ ⟨Nat.zero_le _, Nat.zero_le _⟩ hf (fun r4 σ5 _ hf H locs hw => ?_)
  refine r_imul X dX12_off_25 ?_
  refine r_iadd X dX12_off_26 ?_
  refine r_leti hf (fun y6 hf => ?_)
  refine lv_istore (lv' := [(6, .int (mI y6)), (5, .int (mI y1)), (0, .ref (ad 86)), (1, .int (mI x1)), (2, .int (mI x2)), (3, .int (mI x3)), (4, .int (mI x4))]) hx hb dX12_off_27 hl (by decide) rfl (fun ls hl => ?_)
  refine lv_iload_n hx hb dX12_off_29 rfl (lv_at hl 3 rfl) ?_
  refine lv_bipush (v := mI 9) hx hb dX12_off_30 (by decide) ?_
  refine r_idiv X dX12_off_32 hf (fun hf => ?_)
  refine lv_iload_n hx hb dX12_off_33 rfl (lv_at hl 5 rfl) ?_
  refine lv_iload_n hx hb dX12_off_34 rfl (lv_at hl 4 rfl) ?_
  refine r_csi (rest := [.int (mI x3), .int (mI ((mw x1).tdiv (mw 9)))]) [.int (mI x2)] X hw (fun ra σa h => c_X12_rowBy l D cy ad bs F x2 σ5 ra σa  h) km_X12_rowBy ks_X12_rowBy lm_X12_443 dX12_off_35 hl.1 rfl rfl (Nat.le_of_ble_eq_true rfl) ⟨by decide, by decide⟩ ⟨Nat.zero_le _, Nat.zero_le _⟩ hf (fun r7 σ8 _ hf H locs hw => ?_)
  refine r_imul X dX12_off_38 ?_
  refine r_iadd X dX12_off_39 ?_
  refine lv_iload hx hb dX12_off_40 (lv_at hl 6 rfl) ?_
  refine lv_iload hx hb dX12_off_42 (lv_at hl 1 rfl) ?_
  refine r_csi (rest := [.int (mI x4), .int (mI (((mw x1).tdiv (mw 9)) + (x3 * r7)))]) [.int (mI y1)] X hw (fun ra σa h => c_X12_rowBy l D cy ad bs F y1 σ8 ra σa  h) km_X12_rowBy ks_X12_rowBy lm_X12_443 dX12_off_44 hl.1 rfl rfl (Nat.le_of_ble_eq_true rfl) ⟨by decide, by decide⟩ ⟨Nat.zero_le _, Nat.zero_le _⟩ hf (fun r9 σ10 _ hf H locs hw => ?_)
  refine r_imul X dX12_off_47 ?_
  refine r_iadd X dX12_off_48 ?_
  refine r_leti hf (fun y11 hf => ?_)
  refine lv_istore (lv' := [(7, .int (mI y11)), (6, .int (mI y6)), (5, .int (mI y1)), (0, .ref (ad 86)), (1, .int (mI x1)), (2, .int (mI x2)), (3, .int (mI x3)), (4, .int (mI x4))]) hx hb dX12_off_49 hl (by decide) rfl (fun ls hl => ?_)
  refine lv_aload_n hx hb dX12_off_51 rfl (lv_at hl 3 rfl) ?_
  refine lv_iload hx hb dX12_off_52 (lv_at hl 1 rfl) ?_
  refine lv_iload hx hb dX12_off_54 (lv_at hl 0 rfl) ?_
  refine r_cvi (rest := []) [.int (mI y6), .int (mI y11)] X hw (fun ra σa h => c_X12_isOn l D cy ad bs F y6 y11 σ10 ra σa  h) sh_86 rfl (by decide) rfl km_X12_isOn kv_X12_isOn lm_X12_446 dX12_off_56 hl.1 rfl rfl (Nat.le_of_ble_eq_true rfl) ⟨by decide, by decide⟩ ⟨Nat.zero_le _, Nat.zero_le _⟩ hf (fun r12 σ13 _ hf H locs hw => ?_)
  refine r_if_eq (tgt := 73) X dX12_off_59 (by decide) hf (fun hc hf => ?_) (fun hc hf => ?_)
  · refine lv_iconst (v := mI (-1)) hx hb dX12_off_73 rfl ?_
    exact w_X12_off_b74 X hw (lv_sub hl [3] rfl) hf
  · refine lv_bipush (v := mI 9) hx hb dX12_off_62 (by decide) ?_
    refine lv_iload hx hb dX12_off_64 (lv_at hl 0 rfl) ?_
    refine r_imul X dX12_off_66 ?_
    refine lv_iload hx hb dX12_off_67 (lv_at hl 1 rfl) ?_
    refine r_iadd X dX12_off_69 ?_
    refine lv_goto (tgt := 74) hx hb dX12_off_70 (by decide) ?_
    exact w_X12_off_b74 X hw (lv_sub hl [3] rfl) hf
