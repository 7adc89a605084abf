def g_X12_writesTwo (F : Nat) (x1 : Int) (σ : mMem) : mRs := mob (g_X12_writes F (mshr x1 8) σ) (fun r1 σ2 => mob (g_X12_writes F x1 σ2) (fun r3 σ4 => some (0, σ4)))
set_option maxRecDepth 100000 in
set_option maxHeartbeats 4000000 in
theorem c_X12_writesTwo (l : Launch) (D : va_G) (cy : Nat → ClassId) (ad : Nat → Nat) (bs : Nat) (F : Nat)  (x1 : Int) (σ : mMem) (r : Int) (σ' : mMem)  (hf : g_X12_writesTwo F x1 σ = some (r, σ')) : mCv l D cy ad bs yX12_writesTwo cX12_writesTwo 2 none 2 [.ref (ad 86), .int (mI x1)] σ σ' := by
  refine mCv.of (lv := [(0, .ref (ad 86)), (1, .int (mI x1))]) km_X12_writesTwo.2.2.2.2.2 (Nat.le_of_ble_eq_true rfl) rfl (fun p e s m args below meth c H locs ls X hw hl => ?_)
  obtain ⟨⟨hx, hb, -, -, -⟩, -⟩ := id X
  unfold g_X12_writesTwo at hf
  refine lv_aload_n hx hb dX12_writesTwo_0 rfl (lv_at hl 0 rfl) ?_
  refine lv_iload_n hx hb dX12_writesTwo_1 rfl (lv_at hl 1 rfl) ?_
  refine lv_bipush (v := mI 8) hx hb dX12_writesTwo_2 (by decide) ?_
  refine r_ishr X dX12_writesTwo_4 ?_
  refine r_cvv (rest := []) [.int (mI (mshr x1 8))] X hw (fun ra σa h => c_X12_writes l D cy ad bs F (mshr x1 8) σ ra σa  h) sh_86 rfl (by decide) rfl km_X12_writes kv_X12_writes lm_X12_534 dX12_writesTwo_5 hl.1 rfl rfl (Nat.le_of_ble_eq_true rfl) ⟨by decide, by decide⟩ ⟨Nat.zero_le _, Nat.zero_le _⟩ hf (fun r1 σ2 _ hf H locs hw => ?_)
  refine lv_aload_n hx hb dX12_writesTwo_8 rfl (lv_at hl 0 rfl) ?_
  refine lv_iload_n hx hb dX12_writesTwo_9 rfl (lv_at hl 1 rfl) ?_
  refine r_cvv (rest := []) [.int (mI x1)] X hw (fun ra σa h => c_X12_writes l D cy ad bs F x1 σ2 ra σa  h) sh_86 rfl (by decide) rfl km_X12_writes kv_X12_writes lm_X12_534 dX12_writesTwo_10 hl.1 rfl rfl (Nat.le_of_ble_eq_true rfl) ⟨by decide, by decide⟩ ⟨Nat.zero_le _, Nat.zero_le _⟩ hf (fun r3 σ4 _ hf H locs hw => ?_)
  exact r_vret X hw dX12_writesTwo_13 hf
def g_X12_image_h118 (F : Nat)  : Nat → Int → Int → mMem → mRs
  | 0, _, _, _ => none
  | n + 1, x1, x2, σ => if mw (σ 86 71) ≤ mw x2 then (mob (g_X12_writes F x1 σ) (fun r218 σ219 => some (σ219 86 71, σ219))) else (if 0 ≤ mw x2 ∧ mw x2 < (60 : Int) then if mw 251 = 0 then none else (mlet ((mw ((5 * x1) + (σ 125 (mw x2).toNat))).tmod (mw 251)) (fun y220 => (g_X12_image_h118 F n) y220 (x2 + 1) σ)) else none)
set_option maxRecDepth 100000 in
set_option maxHeartbeats 4000000 in
theorem w_X12_image_h118 {p : Program} {l : Launch} {e : Env} {s : State} {m : MethodId} {args : Array Value} {below : List Frame} {meth : Method} {c : Code} {D : va_G} {cy : Nat → ClassId} {ad : Nat → Nat} {bs : Nat} {F : Nat}  (X : mCx p m c cX12_image 3 s args RX12 meth D cy (some .int))  {r : Int} {σ' : mMem}   (n : Nat) : ∀ {x1 x2 : Int} {σ : mMem} {H : Heap} {locs : List Loc} {ls : Array Slot} (_ : mWd D cy ad bs true mN σ s.heap H locs) (_ : lv_has ls 3 [(0, .ref (ad 86)), (1, .int (mI x1)), (2, .int (mI x2))]) (_ : g_X12_image_h118 F n x1 x2 σ = some (r, σ')), mGi p l e 3 s m args below meth c D cy ad bs r σ' H locs (F0 m 118 ls []) := by
  obtain ⟨⟨hx, hb, -, -, -⟩, -⟩ := id X
  induction n with
  | zero =>
    intro x1 x2 σ H locs ls hw hl hf
    unfold g_X12_image_h118 at hf
    cases hf
  | succ n ih =>
    have hk118 : ∀ (x1 x2 : Int) (σ : mMem) (H : Heap) (locs : List Loc) (ls : Array Slot), mWd D cy ad bs true mN σ s.heap H locs → lv_has ls 3 [(0, .ref (ad 86)), (1, .int (mI x1)), (2, .int (mI x2))] → g_X12_image_h118 F n x1 x2 σ = some (r, σ') → mGi p l e 3 s m args below meth c D cy ad bs r σ' H locs (F0 m 118 ls []) := fun x1 x2 σ H locs ls hw hl hf => ih hw hl hf
    intro x1 x2 σ H locs ls hw hl hf
    unfold g_X12_image_h118 at hf
    refine lv_iload_n hx hb dX12_image_118 rfl (lv_at hl 2 rfl) ?_
    refine lv_aload_n hx hb dX12_image_119 rfl (lv_at hl 0 rfl) ?_
    refine r_geti X hw sh_86 fd_12_71 rfl lf_X12_228 dX12_image_120 ?_
    refine r_icmp_ge (tgt := 147) X dX12_image_123 (by decide) hf (fun hc hf => ?_) (fun hc hf => ?_)
    · refine lv_aload_n hx hb dX12_image_147 rfl (lv_at hl 0 rfl) ?_
      refine lv_iload_n hx hb dX12_image_148 rfl (lv_at hl 1 rfl) ?_
      refine r_cvv (rest := []) [.int (mI x1)] X hw (fun ra σa h => c_X12_writes l D cy ad bs F x1 σ ra σa  h) sh_86 rfl (by decide) rfl km_X12_writes kv_X12_writes lm_X12_534 dX12_image_149 hl.1 rfl rfl (Nat.le_of_ble_eq_true rfl) ⟨by decide, by decide⟩ ⟨Nat.zero_le _, Nat.zero_le _⟩ hf (fun r218 σ219 _ hf H locs hw => ?_)
      refine lv_aload_n hx hb dX12_image_152 rfl (lv_at hl 0 rfl) ?_
      refine r_geti X hw sh_86 fd_12_71 rfl lf_X12_228 dX12_image_153 ?_
      exact r_iret X hw dX12_image_156 hf
    · refine lv_iconst (v := mI 5) hx hb dX12_image_126 rfl ?_
      refine lv_iload_n hx hb dX12_image_127 rfl (lv_at hl 1 rfl) ?_
      refine r_imul X dX12_image_128 ?_
      refine lv_aload_n hx hb dX12_image_129 rfl (lv_at hl 0 rfl) ?_
      refine r_getr 125 X hw sh_86 fd_12_70 rfl rfl lf_X12_225 dX12_image_130 ?_
      refine lv_iload_n hx hb dX12_image_133 rfl (lv_at hl 2 rfl) ?_
      refine r_iald (60 : Int) rfl X hw sh_125 dX12_image_134 hf (fun hf => ?_)
      refine r_iadd X dX12_image_135 ?_
      refine lv_sipush (v := mI 251) hx hb dX12_image_136 (by decide) ?_
      refine r_irem X dX12_image_139 hf (fun hf => ?_)
      refine r_leti hf (fun y220 hf => ?_)
      refine lv_istore_n (lv' := [(1, .int (mI y220)), (0, .ref (ad 86)), (2, .int (mI x2))]) hx hb dX12_image_140 rfl hl (by decide) rfl (fun ls hl => ?_)
      refine lv_iinc (v := mI (x2 + 1)) (lv' := [(2, .int (mI (x2 + 1))), (1, .int (mI y220)), (0, .ref (ad 86))]) hx hb dX12_image_141 hl (k := 2) rfl (mI_add _ _) (by decide) rfl (fun ls hl => ?_)
      refine lv_goto (tgt := 118) hx hb dX12_image_144 (by decide) ?_
      exact hk118 y220 (x2 + 1) σ _ _ _ hw (lv_sub hl [2, 1, 0] rfl) hf
def g_X12_image_h27 (F : Nat)  : Nat → Int → mMem → mRs
  | 0, _, _ => none
  | n + 1, x1, σ => if 0 ≤ mw (σ 86 13) ∧ mw (σ 86 13) < (2 : Int) then if mw (σ 91 (mw (σ 86 13)).toNat) ≤ mw x1 then (g_X12_image_h118 F F 179 0 σ) else (if 0 ≤ mw x1 ∧ mw x1 < (132 : Int) then if mw 9 = 0 then none else (mob (g_X12_writes F ((mw (σ 112 (mw x1).toNat)).tmod (mw 9)) σ) (fun r106 σ107 => if 0 ≤ mw x1 ∧ mw x1 < (132 : Int) then if mw 9 = 0 then none else (mob (g_X12_writes F ((mw (σ107 112 (mw x1).toNat)).tdiv (mw 9)) σ107) (fun r108 σ109 => if 0 ≤ mw x1 ∧ mw x1 < (132 : Int) then mob (g_X12_writes F (σ109 113 (mw x1).toNat) σ109) (fun r110 σ111 => if 0 ≤ mw x1 ∧ mw x1 < (132 : Int) then mob (g_X12_writesTwo F (σ111 114 (mw x1).toNat) σ111) (fun r112 σ113 => if 0 ≤ mw x1 ∧ mw x1 < (132 : Int) then mob (g_X12_writes F (σ113 115 (mw x1).toNat) σ113) (fun r114 σ115 => if 0 ≤ mw x1 ∧ mw x1 < (132 : Int) then mob (g_X12_writesTwo F (σ115 116 (mw x1).toNat) σ115) (fun r116 σ117 => (g_X12_image_h27 F n) (x1 + 1) σ117) else none) else none) else none) else none)) else none)) else none) else none
set_option maxRecDepth 100000 in
set_option maxHeartbeats 4000000 in
theorem w_X12_image_h27 {p : Program} {l : Launch} {e : Env} {s : State} {m : MethodId} {args : Array Value} {below : List Frame} {meth : Method} {c : Code} {D : va_G} {cy : Nat → ClassId} {ad : Nat → Nat} {bs : Nat} {F : Nat}  (X : mCx p m c cX12_image 3 s args RX12 meth D cy (some .int))  {r : Int} {σ' : mMem}   (n : Nat) : ∀ {x1 : Int} {σ : mMem} {H : Heap} {locs : List Loc} {ls : Array Slot} (_ : mWd D cy ad bs true mN σ s.heap H locs) (_ : lv_has ls 3 [(0, .ref (ad 86)), (1, .int (mI x1))]) (_ : g_X12_image_h27 F n x1 σ = some (r, σ')), mGi p l e 3 s m args below meth c D cy ad bs r σ' H locs (F0 m 27 ls []) := by
  obtain ⟨⟨hx, hb, -, -, -⟩, -⟩ := id X
  induction n with
  | zero =>
    intro x1 σ H locs ls hw hl hf
    unfold g_X12_image_h27 at hf
    cases hf
  | succ n ih =>
    have hk27 : ∀ (x1 : Int) (σ : mMem) (H : Heap) (locs : List Loc) (ls : Array Slot), mWd D cy ad bs true mN σ s.heap H locs → lv_has ls 3 [(0, .ref (ad 86)), (1, .int (mI x1))] → g_X12_image_h27 F n x1 σ = some (r, σ') → mGi p l e 3 s m args below meth c D cy ad bs r σ' H locs (F0 m 27 ls []) := fun x1 σ H locs ls hw hl hf => ih hw hl hf
    intro x1 σ H locs ls hw hl hf
    unfold g_X12_image_h27 at hf
    refine lv_iload_n hx hb dX12_image_27 rfl (lv_at hl 1 rfl) ?_
    refine lv_aload_n hx hb dX12_image_28 rfl (lv_at hl 0 rfl) ?_
    refine r_getr 91 X hw sh_86 fd_12_17 rfl rfl lf_X12_63 dX12_image_29 ?_
    refine lv_aload_n hx hb dX12_image_32 rfl (lv_at hl 0 rfl) ?_
    refine r_geti X hw sh_86 fd_12_13 rfl lf_X12_51 dX12_image_33 ?_
    refine r_iald (2 : Int) rfl X hw sh_91 dX12_image_36 hf (fun hf => ?_)
    refine r_icmp_ge (tgt := 112) X dX12_image_37 (by decide) hf (fun hc hf => ?_) (fun hc hf => ?_)
    · refine lv_sipush (v := mI 179) hx hb dX12_image_112 (by decide) ?_
      refine lv_istore_n (lv' := [(1, .int (mI 179)), (0, .ref (ad 86))]) hx hb dX12_image_115 rfl hl (by decide) rfl (fun ls hl => ?_)
      refine lv_iconst (v := mI 0) hx hb dX12_image_116 rfl ?_
      refine lv_istore_n (lv' := [(2, .int (mI 0)), (1, .int (mI 179)), (0, .ref (ad 86))]) hx hb dX12_image_117 rfl hl (by decide) rfl (fun ls hl => ?_)
      exact w_X12_image_h118 X _ hw (lv_sub hl [2, 1, 0] rfl) hf
    · refine lv_aload_n hx hb dX12_image_40 rfl (lv_at hl 0 rfl) ?_
      refine lv_aload_n hx hb dX12_image_41 rfl (lv_at hl 0 rfl) ?_
      refine r_getr 112 X hw sh_86 fd_12_45 rfl rfl lf_X12_150 dX12_image_42 ?_
      refine lv_iload_n hx hb dX12_image_45 rfl (lv_at hl 1 rfl) ?_
      refine r_iald (132 : Int) rfl X hw sh_112 dX12_image_46 hf (fun hf => ?_)
      refine lv_bipush (v := mI 9) hx hb dX12_image_47 (by decide) ?_
      refine r_irem X dX12_image_49 hf (fun hf => ?_)
      refine r_cvv (rest := []) [.int (mI ((mw (σ 112 (mw x1).toNat)).tmod (mw 9)))] X hw (fun ra σa h => c_X12_writes l D cy ad bs F ((mw (σ 112 (mw x1).toNat)).tmod (mw 9)) σ ra σa  h) sh_86 rfl (by decide) rfl km_X12_writes kv_X12_writes lm_X12_534 dX12_image_50 hl.1 rfl rfl (Nat.le_of_ble_eq_true rfl) ⟨by decide, by decide⟩ ⟨Nat.zero_le _, Nat.zero_le _⟩ hf (fun r106 σ107 _ hf H locs hw => ?_)
      refine lv_aload_n hx hb dX12_image_53 rfl (lv_at hl 0 rfl) ?_
      refine lv_aload_n hx hb dX12_image_54 rfl (lv_at hl 0 rfl) ?_
      refine r_getr 112 X hw sh_86 fd_12_45 rfl rfl lf_X12_150 dX12_image_55 ?_
      refine lv_iload_n hx hb dX12_image_58 rfl (lv_at hl 1 rfl) ?_
      refine r_iald (132 : Int) rfl X hw sh_112 dX12_image_59 hf (fun hf => ?_)
      refine lv_bipush (v := mI 9) hx hb dX12_image_60 (by decide) ?_
      refine r_idiv X dX12_image_62 hf (fun hf => ?_)
      refine r_cvv (rest := []) [.int (mI ((mw (σ107 112 (mw x1).toNat)).tdiv (mw 9)))] X hw (fun ra σa h => c_X12_writes l D cy ad bs F ((mw (σ107 112 (mw x1).toNat)).tdiv (mw 9)) σ107 ra σa  h) sh_86 rfl (by decide) rfl km_X12_writes kv_X12_writes lm_X12_534 dX12_image_63 hl.1 rfl rfl (Nat.le_of_ble_eq_true rfl) ⟨by decide, by decide⟩ ⟨Nat.zero_le _, Nat.zero_le _⟩ hf (fun r108 σ109 _ hf H locs hw => ?_)
      refine lv_aload_n hx hb dX12_image_66 rfl (lv_at hl 0 rfl) ?_
      refine lv_aload_n hx hb dX12_image_67 rfl (lv_at hl 0 rfl) ?_
      refine r_getr 113 X hw sh_86 fd_12_46 rfl rfl lf_X12_153 dX12_image_68 ?_
      refine lv_iload_n hx hb dX12_image_71 rfl (lv_at hl 1 rfl) ?_
      refine r_iald (132 : Int) rfl X hw sh_113 dX12_image_72 hf (fun hf => ?_)
      refine r_cvv (rest := []) [.int (mI (σ109 113 (mw x1).toNat))] X hw (fun ra σa h => c_X12_writes l D cy ad bs F (σ109 113 (mw x1).toNat) σ109 ra σa  h) sh_86 rfl (by decide) rfl km_X12_writes kv_X12_writes lm_X12_534 dX12_image_73 hl.1 rfl rfl (Nat.le_of_ble_eq_true rfl) ⟨by decide, by decide⟩ ⟨Nat.zero_le _, Nat.zero_le _⟩ hf (fun r110 σ111 _ hf H locs hw => ?_)
      refine lv_aload_n hx hb dX12_image_76 rfl (lv_at hl 0 rfl) ?_
      refine lv_aload_n hx hb dX12_image_77 rfl (lv_at hl 0 rfl) ?_
      refine r_getr 114 X hw sh_86 fd_12_47 rfl rfl lf_X12_156 dX12_image_78 ?_
      refine lv_iload_n hx hb dX12_image_81 rfl (lv_at hl 1 rfl) ?_
      refine r_iald (132 : Int) rfl X hw sh_114 dX12_image_82 hf (fun hf => ?_)
      refine r_cvv (rest := []) [.int (mI (σ111 114 (mw x1).toNat))] X hw (fun ra σa h => c_X12_writesTwo l D cy ad bs F (σ111 114 (mw x1).toNat) σ111 ra σa  h) sh_86 rfl (by decide) rfl km_X12_writesTwo kv_X12_writesTwo lm_X12_537 dX12_image_83 hl.1 rfl rfl (Nat.le_of_ble_eq_true rfl) ⟨by decide, by decide⟩ ⟨Nat.zero_le _, Nat.zero_le _⟩ hf (fun r112 σ113 _ hf H locs hw => ?_)
      refine lv_aload_n hx hb dX12_image_86 rfl (lv_at hl 0 rfl) ?_
      refine lv_aload_n hx hb dX12_image_87 rfl (lv_at hl 0 rfl) ?_
      refine r_getr 115 X hw sh_86 fd_12_48 rfl rfl lf_X12_159 dX12_image_88 ?_
      refine lv_iload_n hx hb dX12_image_91 rfl (lv_at hl 1 rfl) ?_
      refine r_iald (132 : Int) rfl X hw sh_115 dX12_image_92 hf (fun hf => ?_)
      refine r_cvv (rest := []) [.int (mI (σ113 115 (mw x1).toNat))] X hw (fun ra σa h => c_X12_writes l D cy ad bs F (σ113 115 (mw x1).toNat) σ113 ra σa  h) sh_86 rfl (by decide) rfl km_X12_writes kv_X12_writes lm_X12_534 dX12_image_93 hl.1 rfl rfl (Nat.le_of_ble_eq_true rfl) ⟨by decide, by decide⟩ ⟨Nat.zero_le _, Nat.zero_le _⟩ hf (fun r114 σ115 _ hf H locs hw => ?_)
      refine lv_aload_n hx hb dX12_image_96 rfl (lv_at hl 0 rfl) ?_
      refine lv_aload_n hx hb dX12_image_97 rfl (lv_at hl 0 rfl) ?_
      refine r_getr 116 X hw sh_86 fd_12_49 rfl rfl lf_X12_162 dX12_image_98 ?_
      refine lv_iload_n hx hb dX12_image_101 rfl (lv_at hl 1 rfl) ?_
      refine r_iald (132 : Int) rfl X hw sh_116 dX12_image_102 hf (fun hf => ?_)
      refine r_cvv (rest := []) [.int (mI (σ115 116 (mw x1).toNat))] X hw (fun ra σa h => c_X12_writesTwo l D cy ad bs F (σ115 116 (mw x1).toNat) σ115 ra σa  h) sh_86 rfl (by decide) rfl km_X12_writesTwo kv_X12_writesTwo lm_X12_537 dX12_image_103 hl.1 rfl rfl (Nat.le_of_ble_eq_true rfl) ⟨by decide, by decide⟩ ⟨Nat.zero_le _, Nat.zero_le _⟩ hf (fun r116 σ117 _ hf H locs hw => ?_)
      refine lv_iinc (v := mI (x1 + 1)) (lv' := [(1, .int (mI (x1 + 1))), (0, .ref (ad 86))]) hx hb dX12_image_106 hl (k := 1) rfl (mI_add _ _) (by decide) rfl (fun ls hl => ?_)
      refine lv_goto (tgt := 27) hx hb dX12_image_109 (by decide) ?_
      exact hk27 (x1 + 1) σ117 _ _ _ hw (lv_sub hl [1, 0] rfl) hf
def g_X12_image (F : Nat) (σ : mMem) : mRs := mlm (mup σ 86 71 0) (fun σ1 => if 0 ≤ mw 0 ∧ mw 0 < (22 : Int) then mob (g_X12_writesTwo F (σ1 110 (mw 0).toNat) σ1) (fun r2 σ3 => if 0 ≤ mw 0 ∧ mw 0 < (22 : Int) then mob (g_X12_writes F (σ3 111 (mw 0).toNat) σ3) (fun r4 σ5 => g_X12_image_h27 F F 0 σ5) else none) else none)
set_option maxRecDepth 100000 in
set_option maxHeartbeats 4000000 in
theorem c_X12_image (l : Launch) (D : va_G) (cy : Nat → ClassId) (ad : Nat → Nat) (bs : Nat) (F : Nat)   (σ : mMem) (r : Int) (σ' : mMem)  (hf : g_X12_image F  σ = some (r, σ')) : mCi l D cy ad bs yX12_image cX12_image 3 (some .int) 3 [.ref (ad 86)] σ r σ' := by
  refine mCi.of (lv := [(0, .ref (ad 86))]) km_X12_image.2.2.2.2.2 (Nat.le_of_ble_eq_true rfl) rfl (fun p e s m args below meth c H locs ls X hw hl => ?_)
  obtain ⟨⟨hx, hb, -, -, -⟩, -⟩ := id X
  unfold g_X12_image at hf
  refine lv_aload_n hx hb dX12_image_0 rfl (lv_at hl 0 rfl) ?_
  refine lv_iconst (v := mI 0) hx hb dX12_image_1 rfl ?_
  refine r_puti X hw sh_86 fd_12_71 fp_12_71 rfl rfl lf_X12_228 dX12_image_2 (fun H locs hw => ?_)
  refine r_mem hf hw (fun σ1 hw hf => ?_)
  refine lv_aload_n hx hb dX12_image_5 rfl (lv_at hl 0 rfl) ?_
  refine lv_aload_n hx hb dX12_image_6 rfl (lv_at hl 0 rfl) ?_
  refine r_getr 110 X hw sh_86 fd_12_43 rfl rfl lf_X12_144 dX12_image_7 ?_
  refine lv_iconst (v := mI 0) hx hb dX12_image_10 rfl ?_
  refine r_iald (22 : Int) rfl X hw sh_110 dX12_image_11 hf (fun hf => ?_)
  refine r_cvv (rest := []) [.int (mI (σ1 110 (mw 0).toNat))] X hw (fun ra σa h => c_X12_writesTwo l D cy ad bs F (σ1 110 (mw 0).toNat) σ1 ra σa  h) sh_86 rfl (by decide) rfl km_X12_writesTwo kv_X12_writesTwo lm_X12_537 dX12_image_12 hl.1 rfl rfl (Nat.le_of_ble_eq_true rfl) ⟨by decide, by decide⟩ ⟨Nat.zero_le _, Nat.zero_le _⟩ hf (fun r2 σ3 _ hf H locs hw => ?_)
  refine lv_aload_n hx hb dX12_image_15 rfl (lv_at hl 0 rfl) ?_
  refine lv_aload_n hx hb dX12_image_16 rfl (lv_at hl 0 rfl) ?_
  refine r_getr 111 X hw sh_86 fd_12_44 rfl rfl lf_X12_147 dX12_image_17 ?_
  refine lv_iconst (v := mI 0) hx hb dX12_image_20 rfl ?_
  refine r_iald (22 : Int) rfl X hw sh_111 dX12_image_21 hf (fun hf => ?_)
  refine r_cvv (rest := []) [.int (mI (σ3 111 (mw 0).toNat))] X hw (fun ra σa h => c_X12_writes l D cy ad bs F (σ3 111 (mw 0).toNat) σ3 ra σa  h) sh_86 rfl (by decide) rfl km_X12_writes kv_X12_writes lm_X12_534 dX12_image_22 hl.1 rfl rfl (Nat.le_of_ble_eq_true rfl) ⟨by decide, by decide⟩ ⟨Nat.zero_le _, Nat.zero_le _⟩ hf (fun r4 σ5 _ hf H locs hw => ?_)
  refine lv_iconst (v := mI 0) hx hb dX12_image_25 rfl ?_
  refine lv_istore_n (lv' := [(1, .int (mI 0)), (0, .ref (ad 86))]) hx hb dX12_image_26 rfl hl (by decide) rfl (fun ls hl => ?_)
  exact w_X12_image_h27 X _ hw (lv_sub hl [1, 0] rfl) hf
def g_X12_octet_b24 (F : Nat)  (t0 : Int) (σ : mMem) : mRs := some (t0, σ)
set_option maxRecDepth 100000 in
set_option maxHeartbeats 4000000 in
theorem w_X12_octet_b24 {p : Program} {l : Launch} {e : Env} {s : State} {m : MethodId} {args : Array Value} {below : List Frame} {meth : Method} {c : Code} {D : va_G} {cy : Nat → ClassId} {ad : Nat → Nat} {bs : Nat} {F : Nat}  (X : mCx p m c cX12_octet 2 s args RX12 meth D cy (some .int))  {r : Int} {σ' : mMem}   {t0 : Int} {σ : mMem} {H : Heap} {locs : List Loc} {ls : Array Slot} (hw : mWd D cy ad bs true mN σ s.heap H locs) (hl : lv_has ls 2 [(0, .ref (ad 86))]) (hf : g_X12_octet_b24 F t0 σ = some (r, σ')) : mGi p l e 2 s m args below meth c D cy ad bs r σ' H locs (F0 m 24 ls [.int (mI t0)]) := by
  obtain ⟨⟨hx, hb, -, -, -⟩, -⟩ := id X
  unfold g_X12_octet_b24 at hf
  exact r_iret X hw dX12_octet_24 hf
def g_X12_octet (F : Nat) (x1 : Int) (σ : mMem) : mRs := mob (g_X12_is F x1 0 ((σ 86 71) - 1) σ) (fun r1 σ2 => if mw r1 = 0 then (g_X12_octet_b24 F (-1) σ2) else (if 0 ≤ mw x1 ∧ mw x1 < (60 : Int) then g_X12_octet_b24 F (σ2 125 (mw x1).toNat) σ2 else none))
set_option maxRecDepth 100000 in
set_option maxHeartbeats 4000000 in
theorem c_X12_octet (l : Launch) (D : va_G) (cy : Nat → ClassId) (ad : Nat → Nat) (bs : Nat) (F : Nat)  (x1 : Int) (σ : mMem) (r : Int) (σ' : mMem)  (hf : g_X12_octet F x1 σ = some (r, σ')) : mCi l D cy ad bs yX12_octet cX12_octet 2 (some .int) 2 [.ref (ad 86), .int (mI x1)] σ r σ' := by
  refine mCi.of (lv := [(0, .ref (ad 86)), (1, .int (mI x1))]) km_X12_octet.2.2.2.2.2 (Nat.le_of_ble_eq_true rfl) rfl (fun p e s m args below meth c H locs ls X hw hl => ?_)
  obtain ⟨⟨hx, hb, -, -, -⟩, -⟩ := id X
  unfold g_X12_octet at hf
  refine lv_iload_n hx hb dX12_octet_0 rfl (lv_at hl 1 rfl) ?_
  refine lv_iconst (v := mI 0) hx hb dX12_octet_1 rfl ?_
  refine lv_aload_n hx hb dX12_octet_2 rfl (lv_at hl 0 rfl) ?_
  refine r_geti X hw sh_86 fd_12_71 rfl lf_X12_228 dX12_octet_3 ?_
  refine lv_iconst (v := mI 1) hx hb dX12_octet_6 rfl ?_
  refine r_isub X dX12_octet_7 ?_
  refine r_csi (rest := []) [.int (mI x1), .int (mI 0), .int (mI ((σ 86 71) - 1))] X hw (fun ra σa h => c_X12_is l D cy ad bs F x1 0 ((σ 86 71) - 1) σ ra σa  h) km_X12_is ks_X12_is lm_X12_318 dX12_octet_8 hl.1 rfl rfl (Nat.le_of_ble_eq_true rfl) ⟨by decide, by decide⟩ ⟨Nat.zero_le _, Nat.zero_le _⟩ hf (fun r1 σ2 _ hf H locs hw => ?_)
  refine r_if_eq (tgt := 23) X dX12_octet_11 (by decide) hf (fun hc hf => ?_) (fun hc hf => ?_)
  · refine lv_iconst (v := mI (-1)) hx hb dX12_octet_23 rfl ?_
    exact w_X12_octet_b24 X hw (lv_sub hl [0] rfl) hf
  · refine lv_aload_n hx hb dX12_octet_14 rfl (lv_at hl 0 rfl) ?_
    refine r_getr 125 X hw sh_86 fd_12_70 rfl rfl lf_X12_225 dX12_octet_15 ?_
    refine lv_iload_n hx hb dX12_octet_18 rfl (lv_at hl 1 rfl) ?_
    refine r_iald (60 : Int) rfl X hw sh_125 dX12_octet_19 hf (fun hf => ?_)
    refine lv_goto (tgt := 24) hx hb dX12_octet_20 (by decide) ?_
    exact w_X12_octet_b24 X hw (lv_sub hl [0] rfl) hf
def g_X12_twoBytes (F : Nat) (x1 : Int) (σ : mMem) : mRs := if 0 ≤ mw x1 ∧ mw x1 < (1800 : Int) then if 0 ≤ mw (x1 + 1) ∧ mw (x1 + 1) < (1800 : Int) then some (mor (mshl (σ 87 (mw x1).toNat) 8) (σ 87 (mw (x1 + 1)).toNat), σ) else none else none
set_option maxRecDepth 100000 in
set_option maxHeartbeats 4000000 in
theorem c_X12_twoBytes (l : Launch) (D : va_G) (cy : Nat → ClassId) (ad : Nat → Nat) (bs : Nat) (F : Nat)  (x1 : Int) (σ : mMem) (r : Int) (σ' : mMem)  (hf : g_X12_twoBytes F x1 σ = some (r, σ')) : mCi l D cy ad bs yX12_twoBytes cX12_twoBytes 2 (some .int) 1 [.ref (ad 86), .int (mI x1)] σ r σ' := by
  refine mCi.of (lv := [(0, .ref (ad 86)), (1, .int (mI x1))]) km_X12_twoBytes.2.2.2.2.2 (Nat.le_of_ble_eq_true rfl) rfl (fun p e s m args below meth c H locs ls X hw hl => ?_)
  obtain ⟨⟨hx, hb, -, -, -⟩, -⟩ := id X
  unfold g_X12_twoBytes at hf
  refine lv_aload_n hx hb dX12_twoBytes_0 rfl (lv_at hl 0 rfl) ?_
  refine r_getr 87 X hw sh_86 fd_12_0 rfl rfl lf_X12_7 dX12_twoBytes_1 ?_
  refine lv_iload_n hx hb dX12_twoBytes_4 rfl (lv_at hl 1 rfl) ?_
  refine r_iald (1800 : Int) rfl X hw sh_87 dX12_twoBytes_5 hf (fun hf => ?_)
  refine lv_bipush (v := mI 8) hx hb dX12_twoBytes_6 (by decide) ?_
  refine r_ishl X dX12_twoBytes_8 ?_
  refine lv_aload_n hx hb dX12_twoBytes_9 rfl (lv_at hl 0 rfl) ?_
  refine r_getr 87 X hw sh_86 fd_12_0 rfl rfl lf_X12_7 dX12_twoBytes_10 ?_
  refine lv_iload_n hx hb dX12_twoBytes_13 rfl (lv_at hl 1 rfl) ?_
  refine lv_iconst (v := mI 1) hx hb dX12_twoBytes_14 rfl ?_
  refine r_iadd X dX12_twoBytes_15 ?_
  refine r_iald (1800 : Int) rfl X hw sh_87 dX12_twoBytes_16 hf (fun hf => ?_)
  refine r_ior X dX12_twoBytes_17 ?_
  exact r_iret X hw dX12_twoBytes_18 hf
def g_X12_boxOn_b193 (F : Nat)  (t0 : Int) (σ : mMem) : mRs := if mw t0 = 0 ∨ mw t0 = 1 then some (t0, σ) else none
set_option maxRecDepth 100000 in
set_option maxHeartbeats 4000000 in
theorem w_X12_boxOn_b193 {p : Program} {l : Launch} {e : Env} {s : State} {m : MethodId} {args : Array Value} {below : List Frame} {meth : Method} {c : Code} {D : va_G} {cy : Nat → ClassId} {ad : Nat → Nat} {bs : Nat} {F : Nat}  (X : mCx p m c cX12_boxOn 5 s args RX12 meth D cy (some .boolean))  {r : Int} {σ' : mMem}   {t0 : Int} {σ : mMem} {H : Heap} {locs : List Loc} {ls : Array Slot} (hw : mWd D cy ad bs true mN σ s.heap H locs) (hl : lv_has ls 5 [(0, .ref (ad 86))]) (hf : g_X12_boxOn_b193 F t0 σ = some (r, σ')) : mGi p l e 3 s m args below meth c D cy ad bs r σ' H locs (F0 m 193 ls [.int (mI t0)]) := by
  obtain ⟨⟨hx, hb, -, -, -⟩, -⟩ := id X
  unfold g_X12_boxOn_b193 at hf
  exact r_zret X hw dX12_boxOn_193 hf
def g_X12_boxOn_b192 (F : Nat)  (σ : mMem) : mRs := g_X12_boxOn_b193 F 0 σ
set_option maxRecDepth 100000 in
set_option maxHeartbeats 4000000 in
theorem w_X12_boxOn_b192 {p : Program} {l : Launch} {e : Env} {s : State} {m : MethodId} {args : Array Value} {below : List Frame} {meth : Method} {c : Code} {D : va_G} {cy : Nat → ClassId} {ad : Nat → Nat} {bs : Nat} {F : Nat}  (X : mCx p m c cX12_boxOn 5 s args RX12 meth D cy (some .boolean))  {r : Int} {σ' : mMem}    {σ : mMem} {H : Heap} {locs : List Loc} {ls : Array Slot} (hw : mWd D cy ad bs true mN σ s.heap H locs) (hl : lv_has ls 5 [(0, .ref (ad 86))]) (hf : g_X12_boxOn_b192 F  σ = some (r, σ')) : mGi p l e 3 s m args below meth c D cy ad bs r σ' H locs (F0 m 192 ls []) := by
  obtain ⟨⟨hx, hb, -, -, -⟩, -⟩ := id X
  unfold g_X12_boxOn_b192 at hf
  refine lv_iconst (v := mI 0) hx hb dX12_boxOn_192 rfl ?_
  exact w_X12_boxOn_b193 X hw (lv_sub hl [0] rfl) hf
def g_X12_boxOn_h110 (F : Nat)  : Nat → Int → Int → Int → mMem → mRs
  | 0, _, _, _, _ => none
  | n + 1, x1, x3, x4, σ => if mw x1 ≤ mw x4 then (if 0 ≤ mw x3 ∧ mw x3 < (132 : Int) then if mw 4 ≤ mw (σ 113 (mw x3).toNat) then (g_X12_boxOn_b192 F σ) else (if 0 ≤ mw x3 ∧ mw x3 < (132 : Int) then if mw 999 < mw (σ 114 (mw x3).toNat) then (g_X12_boxOn_b192 F σ) else (if 0 ≤ mw x3 ∧ mw x3 < (132 : Int) then if mw 99 < mw (σ 115 (mw x3).toNat) then (g_X12_boxOn_b192 F σ) else (if 0 ≤ mw x3 ∧ mw x3 < (132 : Int) then if mw 2520 ≤ mw (σ 116 (mw x3).toNat) then (g_X12_boxOn_b192 F σ) else (g_X12_boxOn_b193 F 1 σ) else none) else none) else none) else none) else (if 0 ≤ mw (6 + x4) ∧ mw (6 + x4) < (132 : Int) then if 0 ≤ mw x3 ∧ mw x3 < (132 : Int) then if ¬ mw (σ 112 (mw (6 + x4)).toNat) = mw (σ 112 (mw x3).toNat) then ((g_X12_boxOn_h110 F n) x1 x3 (x4 + 1) σ) else (if mw 0 = 0 ∨ mw 0 = 1 then some (0, σ) else none) else none else none)
set_option maxRecDepth 100000 in
set_option maxHeartbeats 4000000 in
theorem w_X12_boxOn_h110 {p : Program} {l : Launch} {e : Env} {s : State} {m : MethodId} {args : Array Value} {below : List Frame} {meth : Method} {c : Code} {D : va_G} {cy : Nat → ClassId} {ad : Nat → Nat} {bs : Nat} {F : Nat}  (X : mCx p m c cX12_boxOn 5 s args RX12 meth D cy (some .boolean))  {r : Int} {σ' : mMem}   (n : Nat) : ∀ {x1 x3 x4 : Int} {σ : mMem} {H : Heap} {locs : List Loc} {ls : Array Slot} (_ : mWd D cy ad bs true mN σ s.heap H locs) (_ : lv_has ls 5 [(0, .ref (ad 86)), (1, .int (mI x1)), (3, .int (mI x3)), (4, .int (mI x4))]) (_ : g_X12_boxOn_h110 F n x1 x3 x4 σ = some (r, σ')), mGi p l e 3 s m args below meth c D cy ad bs r σ' H locs (F0 m 110 ls []) := by
  obtain ⟨⟨hx, hb, -, -, -⟩, -⟩ := id X
  induction n with
  | zero =>
    intro x1 x3 x4 σ H locs ls hw hl hf
    unfold g_X12_boxOn_h110 at hf
    cases hf
  | succ n ih =>
    have hk110 : ∀ (x1 x3 x4 : Int) (σ : mMem) (H : Heap) (locs : List Loc) (ls : Array Slot), mWd D cy ad bs true mN σ s.heap H locs → lv_has ls 5 [(0, .ref (ad 86)), (1, .int (mI x1)), (3, .int (mI x3)), (4, .int (mI x4))] → g_X12_boxOn_h110 F n x1 x3 x4 σ = some (r, σ') → mGi p l e 3 s m args below meth c D cy ad bs r σ' H locs (F0 m 110 ls []) := fun x1 x3 x4 σ H locs ls hw hl hf => ih hw hl hf
    intro x1 x3 x4 σ H locs ls hw hl hf
    unfold g_X12_boxOn_h110 at hf
    refine lv_iload hx hb dX12_boxOn_110 (lv_at hl 3 rfl) ?_
    refine lv_iload_n hx hb dX12_boxOn_112 rfl (lv_at hl 1 rfl) ?_
    refine r_icmp_ge (tgt := 143) X dX12_boxOn_113 (by decide) hf (fun hc hf => ?_) (fun hc hf => ?_)
    · refine lv_aload_n hx hb dX12_boxOn_143 rfl (lv_at hl 0 rfl) ?_
      refine r_getr 113 X hw sh_86 fd_12_46 rfl rfl lf_X12_153 dX12_boxOn_144 ?_
      refine lv_iload_n hx hb dX12_boxOn_147 rfl (lv_at hl 2 rfl) ?_
      refine r_iald (132 : Int) rfl X hw sh_113 dX12_boxOn_148 hf (fun hf => ?_)
      refine lv_iconst (v := mI 4) hx hb dX12_boxOn_149 rfl ?_
      refine r_icmp_ge (tgt := 192) X dX12_boxOn_150 (by decide) hf (fun hc hf => ?_) (fun hc hf => ?_)
      · exact w_X12_boxOn_b192 X hw (lv_sub hl [0] rfl) hf
      · refine lv_aload_n hx hb dX12_boxOn_153 rfl (lv_at hl 0 rfl) ?_
        refine r_getr 114 X hw sh_86 fd_12_47 rfl rfl lf_X12_156 dX12_boxOn_154 ?_
        refine lv_iload_n hx hb dX12_boxOn_157 rfl (lv_at hl 2 rfl) ?_
        refine r_iald (132 : Int) rfl X hw sh_114 dX12_boxOn_158 hf (fun hf => ?_)
        refine lv_sipush (v := mI 999) hx hb dX12_boxOn_159 (by decide) ?_
        refine r_icmp_gt (tgt := 192) X dX12_boxOn_162 (by decide) hf (fun hc hf => ?_) (fun hc hf => ?_)
        · exact w_X12_boxOn_b192 X hw (lv_sub hl [0] rfl) hf
        · refine lv_aload_n hx hb dX12_boxOn_165 rfl (lv_at hl 0 rfl) ?_
          refine r_getr 115 X hw sh_86 fd_12_48 rfl rfl lf_X12_159 dX12_boxOn_166 ?_
          refine lv_iload_n hx hb dX12_boxOn_169 rfl (lv_at hl 2 rfl) ?_
          refine r_iald (132 : Int) rfl X hw sh_115 dX12_boxOn_170 hf (fun hf => ?_)
          refine lv_bipush (v := mI 99) hx hb dX12_boxOn_171 (by decide) ?_
          refine r_icmp_gt (tgt := 192) X dX12_boxOn_173 (by decide) hf (fun hc hf => ?_) (fun hc hf => ?_)
          · exact w_X12_boxOn_b192 X hw (lv_sub hl [0] rfl) hf
          · refine lv_aload_n hx hb dX12_boxOn_176 rfl (lv_at hl 0 rfl) ?_
            refine r_getr 116 X hw sh_86 fd_12_49 rfl rfl lf_X12_162 dX12_boxOn_177 ?_
            refine lv_iload_n hx hb dX12_boxOn_180 rfl (lv_at hl 2 rfl) ?_
            refine r_iald (132 : Int) rfl X hw sh_116 dX12_boxOn_181 hf (fun hf => ?_)
            refine lv_sipush (v := mI 2520) hx hb dX12_boxOn_182 (by decide) ?_
            refine r_icmp_ge (tgt := 192) X dX12_boxOn_185 (by decide) hf (fun hc hf => ?_) (fun hc hf => ?_)
            · exact w_X12_boxOn_b192 X hw (lv_sub hl [0] rfl) hf
            · refine lv_iconst (v := mI 1) hx hb dX12_boxOn_188 rfl ?_
              refine lv_goto (tgt := 193) hx hb dX12_boxOn_189 (by decide) ?_
              exact w_X12_boxOn_b193 X hw (lv_sub hl [0] rfl) hf
    · refine lv_aload_n hx hb dX12_boxOn_116 rfl (lv_at hl 0 rfl) ?_
      refine r_getr 112 X hw sh_86 fd_12_45 rfl rfl lf_X12_150 dX12_boxOn_117 ?_
      refine lv_bipush (v := mI 6) hx hb dX12_boxOn_120 (by decide) ?_
      refine lv_iload hx hb dX12_boxOn_122 (lv_at hl 3 rfl) ?_
      refine r_iadd X dX12_boxOn_124 ?_
      refine r_iald (132 : Int) rfl X hw sh_112 dX12_boxOn_125 hf (fun hf => ?_)
      refine lv_aload_n hx hb dX12_boxOn_126 rfl (lv_at hl 0 rfl) ?_
      refine r_getr 112 X hw sh_86 fd_12_45 rfl rfl lf_X12_150 dX12_boxOn_127 ?_
      refine lv_iload_n hx hb dX12_boxOn_130 rfl (lv_at hl 2 rfl) ?_
      refine r_iald (132 : Int) rfl X hw sh_112 dX12_boxOn_131 hf (fun hf => ?_)
      refine r_icmp_ne (tgt := 137) X dX12_boxOn_132 (by decide) hf (fun hc hf => ?_) (fun hc hf => ?_)
      · refine lv_iinc (v := mI (x4 + 1)) (lv' := [(4, .int (mI (x4 + 1))), (0, .ref (ad 86)), (1, .int (mI x1)), (3, .int (mI x3))]) hx hb dX12_boxOn_137 hl (k := 3) rfl (mI_add _ _) (by decide) rfl (fun ls hl => ?_)
        refine lv_goto (tgt := 110) hx hb dX12_boxOn_140 (by decide) ?_
        exact hk110 x1 x3 (x4 + 1) σ _ _ _ hw (lv_sub hl [1, 2, 3, 0] rfl) hf
      · refine lv_iconst (v := mI 0) hx hb dX12_boxOn_135 rfl ?_
        exact r_zret X hw dX12_boxOn_136 hf
def g_X12_boxOn (F : Nat) (x1 x2 : Int) (σ : mMem) : mRs := mlet (6 + x1) (fun y1 => if 0 ≤ mw x2 ∧ mw x2 < (1800 : Int) then if 0 ≤ mw (x2 + 1) ∧ mw (x2 + 1) < (1800 : Int) then mob (g_X12_isOn F (σ 87 (mw x2).toNat) (σ 87 (mw (x2 + 1)).toNat) σ) (fun r2 σ3 => if ¬ mw r2 = 0 then (if 0 ≤ mw (x2 + 1) ∧ mw (x2 + 1) < (1800 : Int) then if 0 ≤ mw x2 ∧ mw x2 < (1800 : Int) then if 0 ≤ mw y1 ∧ mw y1 < (132 : Int) then mlm (mup σ3 112 (mw y1).toNat ((9 * (σ3 87 (mw (x2 + 1)).toNat)) + (σ3 87 (mw x2).toNat))) (fun σ4 => if 0 ≤ mw (x2 + 2) ∧ mw (x2 + 2) < (1800 : Int) then if 0 ≤ mw y1 ∧ mw y1 < (132 : Int) then mlm (mup σ4 113 (mw y1).toNat (σ4 87 (mw (x2 + 2)).toNat)) (fun σ5 => mob (g_X12_twoBytes F (x2 + 3) σ5) (fun r6 σ7 => if 0 ≤ mw y1 ∧ mw y1 < (132 : Int) then mlm (mup σ7 114 (mw y1).toNat r6) (fun σ8 => if 0 ≤ mw (x2 + 5) ∧ mw (x2 + 5) < (1800 : Int) then if 0 ≤ mw y1 ∧ mw y1 < (132 : Int) then mlm (mup σ8 115 (mw y1).toNat (σ8 87 (mw (x2 + 5)).toNat)) (fun σ9 => mob (g_X12_twoBytes F (x2 + 6) σ9) (fun r10 σ11 => if 0 ≤ mw y1 ∧ mw y1 < (132 : Int) then mlm (mup σ11 116 (mw y1).toNat r10) (fun σ12 => g_X12_boxOn_h110 F F x1 y1 0 σ12) else none)) else none else none) else none)) else none else none) else none else none else none) else (if mw 0 = 0 ∨ mw 0 = 1 then some (0, σ3) else none)) else none else none)
set_option maxRecDepth 100000 in
set_option maxHeartbeats 4000000 in
theorem c_X12_boxOn (l : Launch) (D : va_G) (cy : Nat → ClassId) (ad : Nat → Nat) (bs : Nat) (F : Nat)  (x1 x2 : Int) (σ : mMem) (r : Int) (σ' : mMem)  (hf : g_X12_boxOn F x1 x2 σ = some (r, σ')) : mCi l D cy ad bs yX12_boxOn cX12_boxOn 5 (some .boolean) 3 [.ref (ad 86), .int (mI x1), .int (mI x2)] σ r σ' := by
  refine mCi.of (lv := [(0, .ref (ad 86)), (1, .int (mI x1)), (2, .int (mI x2))]) km_X12_boxOn.2.2.2.2.2 (Nat.le_of_ble_eq_true rfl) rfl (fun p e s m args below meth c H locs ls X hw hl => ?_)
  obtain ⟨⟨hx, hb, -, -, -⟩, -⟩ := id X
  unfold g_X12_boxOn at hf
  refine lv_bipush (v := mI 6) hx hb dX12_boxOn_0 (by decide) ?_
  refine lv_iload_n hx hb dX12_boxOn_2 rfl (lv_at hl 1 rfl) ?_
  refine r_iadd X dX12_boxOn_3 ?_
  refine r_leti hf (fun y1 hf => ?_)
  refine lv_istore_n (lv' := [(3, .int (mI y1)), (0, .ref (ad 86)), (1, .int (mI x1)), (2, .int (mI x2))]) hx hb dX12_boxOn_4 rfl hl (by decide) rfl (fun ls hl => ?_)
  refine lv_aload_n hx hb dX12_boxOn_5 rfl (lv_at hl 1 rfl) ?_
  refine lv_aload_n hx hb dX12_boxOn_6 rfl (lv_at hl 1 rfl) ?_
  refine r_getr 87 X hw sh_86 fd_12_0 rfl rfl lf_X12_7 dX12_boxOn_7 ?_
  refine lv_iload_n hx hb dX12_boxOn_10 rfl (lv_at hl 3 rfl) ?_
  refine r_iald (1800 : Int) rfl X hw sh_87 dX12_boxOn_11 hf (fun hf => ?_)
  refine lv_aload_n hx hb dX12_boxOn_12 rfl (lv_at hl 1 rfl) ?_
  refine r_getr 87 X hw sh_86 fd_12_0 rfl rfl lf_X12_7 dX12_boxOn_13 ?_
  refine lv_iload_n hx hb dX12_boxOn_16 rfl (lv_at hl 3 rfl) ?_
  refine lv_iconst (v := mI 1) hx hb dX12_boxOn_17 rfl ?_
  refine r_iadd X dX12_boxOn_18 ?_
  refine r_iald (1800 : Int) rfl X hw sh_87 dX12_boxOn_19 hf (fun hf => ?_)
  refine r_cvi (rest := []) [.int (mI (σ 87 (mw x2).toNat)), .int (mI (σ 87 (mw (x2 + 1)).toNat))] X hw (fun ra σa h => c_X12_isOn l D cy ad bs F (σ 87 (mw x2).toNat) (σ 87 (mw (x2 + 1)).toNat) σ ra σa  h) sh_86 rfl (by decide) rfl km_X12_isOn kv_X12_isOn lm_X12_446 dX12_boxOn_20 hl.1 rfl rfl (Nat.le_of_ble_eq_true rfl) ⟨by decide, by decide⟩ ⟨Nat.zero_le _, Nat.zero_le _⟩ hf (fun r2 σ3 _ hf H locs hw => ?_)
  refine r_if_ne (tgt := 28) X dX12_boxOn_23 (by decide) hf (fun hc hf => ?_) (fun hc hf => ?_)
  · refine lv_aload_n hx hb dX12_boxOn_28 rfl (lv_at hl 1 rfl) ?_
    refine r_getr 112 X hw sh_86 fd_12_45 rfl rfl lf_X12_150 dX12_boxOn_29 ?_
    refine lv_iload_n hx hb dX12_boxOn_32 rfl (lv_at hl 0 rfl) ?_
    refine lv_bipush (v := mI 9) hx hb dX12_boxOn_33 (by decide) ?_
    refine lv_aload_n hx hb dX12_boxOn_35 rfl (lv_at hl 1 rfl) ?_
    refine r_getr 87 X hw sh_86 fd_12_0 rfl rfl lf_X12_7 dX12_boxOn_36 ?_
    refine lv_iload_n hx hb dX12_boxOn_39 rfl (lv_at hl 3 rfl) ?_
    refine lv_iconst (v := mI 1) hx hb dX12_boxOn_40 rfl ?_
    refine r_iadd X dX12_boxOn_41 ?_
    refine r_iald (1800 : Int) rfl X hw sh_87 dX12_boxOn_42 hf (fun hf => ?_)
    refine r_imul X dX12_boxOn_43 ?_
    refine lv_aload_n hx hb dX12_boxOn_44 rfl (lv_at hl 1 rfl) ?_
    refine r_getr 87 X hw sh_86 fd_12_0 rfl rfl lf_X12_7 dX12_boxOn_45 ?_
    refine lv_iload_n hx hb dX12_boxOn_48 rfl (lv_at hl 3 rfl) ?_
    refine r_iald (1800 : Int) rfl X hw sh_87 dX12_boxOn_49 hf (fun hf => ?_)
    refine r_iadd X dX12_boxOn_50 ?_
    refine r_iast (132 : Int) rfl X hw sh_112 dX12_boxOn_51 hf (fun hf H locs hw => ?_)
    refine r_mem hf hw (fun σ4 hw hf => ?_)
    refine lv_aload_n hx hb dX12_boxOn_52 rfl (lv_at hl 1 rfl) ?_
    refine r_getr 113 X hw sh_86 fd_12_46 rfl rfl lf_X12_153 dX12_boxOn_53 ?_
    refine lv_iload_n hx hb dX12_boxOn_56 rfl (lv_at hl 0 rfl) ?_
    refine lv_aload_n hx hb dX12_boxOn_57 rfl (lv_at hl 1 rfl) ?_
    refine r_getr 87 X hw sh_86 fd_12_0 rfl rfl lf_X12_7 dX12_boxOn_58 ?_
    refine lv_iload_n hx hb dX12_boxOn_61 rfl (lv_at hl 3 rfl) ?_
    refine lv_iconst (v := mI 2) hx hb dX12_boxOn_62 rfl ?_
    refine r_iadd X dX12_boxOn_63 ?_
    refine r_iald (1800 : Int) rfl X hw sh_87 dX12_boxOn_64 hf (fun hf => ?_)
    refine r_iast (132 : Int) rfl X hw sh_113 dX12_boxOn_65 hf (fun hf H locs hw => ?_)
    refine r_mem hf hw (fun σ5 hw hf => ?_)
    refine lv_aload_n hx hb dX12_boxOn_66 rfl (lv_at hl 1 rfl) ?_
    refine r_getr 114 X hw sh_86 fd_12_47 rfl rfl lf_X12_156 dX12_boxOn_67 ?_
    refine lv_iload_n hx hb dX12_boxOn_70 rfl (lv_at hl 0 rfl) ?_
    refine lv_aload_n hx hb dX12_boxOn_71 rfl (lv_at hl 1 rfl) ?_
    refine lv_iload_n hx hb dX12_boxOn_72 rfl (lv_at hl 3 rfl) ?_
    refine lv_iconst (v := mI 3) hx hb dX12_boxOn_73 rfl ?_
    refine r_iadd X dX12_boxOn_74 ?_
    refine r_cvi (rest := [.int (mI y1), .ref (ad 114)]) [.int (mI (x2 + 3))] X hw (fun ra σa h => c_X12_twoBytes l D cy ad bs F (x2 + 3) σ5 ra σa  h) sh_86 rfl (by decide) rfl km_X12_twoBytes kv_X12_twoBytes lm_X12_540 dX12_boxOn_75 hl.1 rfl rfl (Nat.le_of_ble_eq_true rfl) ⟨by decide, by decide⟩ ⟨Nat.zero_le _, Nat.zero_le _⟩ hf (fun r6 σ7 _ hf H locs hw => ?_)
    refine r_iast (132 : Int) rfl X hw sh_114 dX12_boxOn_78 hf (fun hf H locs hw => ?_)
    refine r_mem hf hw (fun σ8 hw hf => ?_)
    refine lv_aload_n hx hb dX12_boxOn_79 rfl (lv_at hl 1 rfl) ?_
    refine r_getr 115 X hw sh_86 fd_12_48 rfl rfl lf_X12_159 dX12_boxOn_80 ?_
    refine lv_iload_n hx hb dX12_boxOn_83 rfl (lv_at hl 0 rfl) ?_
    refine lv_aload_n hx hb dX12_boxOn_84 rfl (lv_at hl 1 rfl) ?_
    refine r_getr 87 X hw sh_86 fd_12_0 rfl rfl lf_X12_7 dX12_boxOn_85 ?_
    refine lv_iload_n hx hb dX12_boxOn_88 rfl (lv_at hl 3 rfl) ?_
    refine lv_iconst (v := mI 5) hx hb dX12_boxOn_89 rfl ?_
    refine r_iadd X dX12_boxOn_90 ?_
    refine r_iald (1800 : Int) rfl X hw sh_87 dX12_boxOn_91 hf (fun hf => ?_)
    refine r_iast (132 : Int) rfl X hw sh_115 dX12_boxOn_92 hf (fun hf H locs hw => ?_)
    refine r_mem hf hw (fun σ9 hw hf => ?_)
    refine lv_aload_n hx hb dX12_boxOn_93 rfl (lv_at hl 1 rfl) ?_
    refine r_getr 116 X hw sh_86 fd_12_49 rfl rfl lf_X12_162 dX12_boxOn_94 ?_
    refine lv_iload_n hx hb dX12_boxOn_97 rfl (lv_at hl 0 rfl) ?_
    refine lv_aload_n hx hb dX12_boxOn_98 rfl (lv_at hl 1 rfl) ?_
    refine lv_iload_n hx hb dX12_boxOn_99 rfl (lv_at hl 3 rfl) ?_
    refine lv_bipush (v := mI 6) hx hb dX12_boxOn_100 (by decide) ?_
    refine r_iadd X dX12_boxOn_102 ?_
    refine r_cvi (rest := [.int (mI y1), .ref (ad 116)]) [.int (mI (x2 + 6))] X hw (fun ra σa h => c_X12_twoBytes l D cy ad bs F (x2 + 6) σ9 ra σa  h) sh_86 rfl (by decide) rfl km_X12_twoBytes kv_X12_twoBytes lm_X12_540 dX12_boxOn_103 hl.1 rfl rfl (Nat.le_of_ble_eq_true rfl) ⟨by decide, by decide⟩ ⟨Nat.zero_le _, Nat.zero_le _⟩ hf (fun r10 σ11 _ hf H locs hw => ?_)
    refine r_iast (132 : Int) rfl X hw sh_116 dX12_boxOn_106 hf (fun hf H locs hw => ?_)
    refine r_mem hf hw (fun σ12 hw hf => ?_)
    refine lv_iconst (v := mI 0) hx hb dX12_boxOn_107 rfl ?_
    refine lv_istore (lv' := [(4, .int (mI 0)), (3, .int (mI y1)), (0, .ref (ad 86)), (1, .int (mI x1)), (2, .int (mI x2))]) hx hb dX12_boxOn_108 hl (by decide) rfl (fun ls hl => ?_)
    exact w_X12_boxOn_h110 X _ hw (lv_sub hl [2, 3, 1, 0] rfl) hf
  · refine lv_iconst (v := mI 0) hx hb dX12_boxOn_26 rfl ?_
    exact r_zret X hw dX12_boxOn_27 hf
def g_X12_comesOn_b40 (F : Nat)  (σ : mMem) : mRs := if mw 0 = 0 ∨ mw 0 = 1 then some (0, σ) else none
set_option maxRecDepth 100000 in
set_option maxHeartbeats 4000000 in
theorem w_X12_comesOn_b40 {p : Program} {l : Launch} {e : Env} {s : State} {m : MethodId} {args : Array Value} {below : List Frame} {meth : Method} {c : Code} {D : va_G} {cy : Nat → ClassId} {ad : Nat → Nat} {bs : Nat} {F : Nat}  (X : mCx p m c cX12_comesOn 4 s args RX12 meth D cy (some .boolean))  {r : Int} {σ' : mMem}    {σ : mMem} {H : Heap} {locs : List Loc} {ls : Array Slot} (hw : mWd D cy ad bs true mN σ s.heap H locs) (hl : lv_has ls 4 [(0, .ref (ad 86))]) (hf : g_X12_comesOn_b40 F  σ = some (r, σ')) : mGi p l e 4 s m args below meth c D cy ad bs r σ' H locs (F0 m 40 ls []) := by
  obtain ⟨⟨hx, hb, -, -, -⟩, -⟩ := id X
  unfold g_X12_comesOn_b40 at hf
  refine lv_iconst (v := mI 0) hx hb dX12_comesOn_40 rfl ?_
  exact r_zret X hw dX12_comesOn_41 hf
def g_X12_comesOn_h128 (F : Nat)  : Nat → Int → mMem → mRs
  | 0, _, _ => none
  | n + 1, x3, σ => if 0 ≤ mw (σ 86 13) ∧ mw (σ 86 13) < (2 : Int) then if mw (σ 91 (mw (σ 86 13)).toNat) ≤ mw x3 then (if mw 1 = 0 ∨ mw 1 = 1 then some (1, σ) else none) else (mob (g_X12_boxOn F x3 (3 + (8 * x3)) σ) (fun r311 σ312 => if ¬ mw r311 = 0 then ((g_X12_comesOn_h128 F n) (x3 + 1) σ312) else (if mw 0 = 0 ∨ mw 0 = 1 then some (0, σ312) else none))) else none
set_option maxRecDepth 100000 in
set_option maxHeartbeats 4000000 in
theorem w_X12_comesOn_h128 {p : Program} {l : Launch} {e : Env} {s : State} {m : MethodId} {args : Array Value} {below : List Frame} {meth : Method} {c : Code} {D : va_G} {cy : Nat → ClassId} {ad : Nat → Nat} {bs : Nat} {F : Nat}  (X : mCx p m c cX12_comesOn 4 s args RX12 meth D cy (some .boolean))  {r : Int} {σ' : mMem}   (n : Nat) : ∀ {x3 : Int} {σ : mMem} {H : Heap} {locs : List Loc} {ls : Array Slot} (_ : mWd D cy ad bs true mN σ s.heap H locs) (_ : lv_has ls 4 [(0, .ref (ad 86)), (3, .int (mI x3))]) (_ : g_X12_comesOn_h128 F n x3 σ = some (r, σ')), mGi p l e 4 s m args below meth c D cy ad bs r σ' H locs (F0 m 128 ls []) := by
  obtain ⟨⟨hx, hb, -, -, -⟩, -⟩ := id X
  induction n with
  | zero =>
    intro x3 σ H locs ls hw hl hf
    unfold g_X12_comesOn_h128 at hf
    cases hf
  | succ n ih =>
    have hk128 : ∀ (x3 : Int) (σ : mMem) (H : Heap) (locs : List Loc) (ls : Array Slot), mWd D cy ad bs true mN σ s.heap H locs → lv_has ls 4 [(0, .ref (ad 86)), (3, .int (mI x3))] → g_X12_comesOn_h128 F n x3 σ = some (r, σ') → mGi p l e 4 s m args below meth c D cy ad bs r σ' H locs (F0 m 128 ls []) := fun x3 σ H locs ls hw hl hf => ih hw hl hf
    intro x3 σ H locs ls hw hl hf
    unfold g_X12_comesOn_h128 at hf
    refine lv_iload_n hx hb dX12_comesOn_128 rfl (lv_at hl 1 rfl) ?_
    refine lv_aload_n hx hb dX12_comesOn_129 rfl (lv_at hl 0 rfl) ?_
    refine r_getr 91 X hw sh_86 fd_12_17 rfl rfl lf_X12_63 dX12_comesOn_130 ?_
    refine lv_aload_n hx hb dX12_comesOn_133 rfl (lv_at hl 0 rfl) ?_
    refine r_geti X hw sh_86 fd_12_13 rfl lf_X12_51 dX12_comesOn_134 ?_
    refine r_iald (2 : Int) rfl X hw sh_91 dX12_comesOn_137 hf (fun hf => ?_)
    refine r_icmp_ge (tgt := 163) X dX12_comesOn_138 (by decide) hf (fun hc hf => ?_) (fun hc hf => ?_)
    · refine lv_iconst (v := mI 1) hx hb dX12_comesOn_163 rfl ?_
      exact r_zret X hw dX12_comesOn_164 hf
    · refine lv_aload_n hx hb dX12_comesOn_141 rfl (lv_at hl 0 rfl) ?_
      refine lv_iload_n hx hb dX12_comesOn_142 rfl (lv_at hl 1 rfl) ?_
      refine lv_iconst (v := mI 3) hx hb dX12_comesOn_143 rfl ?_
      refine lv_bipush (v := mI 8) hx hb dX12_comesOn_144 (by decide) ?_
      refine lv_iload_n hx hb dX12_comesOn_146 rfl (lv_at hl 1 rfl) ?_
      refine r_imul X dX12_comesOn_147 ?_
      refine r_iadd X dX12_comesOn_148 ?_
      refine r_cvi (rest := []) [.int (mI x3), .int (mI (3 + (8 * x3)))] X hw (fun ra σa h => c_X12_boxOn l D cy ad bs F x3 (3 + (8 * x3)) σ ra σa  h) sh_86 rfl (by decide) rfl km_X12_boxOn kv_X12_boxOn lm_X12_543 dX12_comesOn_149 hl.1 rfl rfl (Nat.le_of_ble_eq_true rfl) ⟨by decide, by decide⟩ ⟨Nat.zero_le _, Nat.zero_le _⟩ hf (fun r311 σ312 _ hf H locs hw => ?_)
      refine r_if_ne (tgt := 157) X dX12_comesOn_152 (by decide) hf (fun hc hf => ?_) (fun hc hf => ?_)
      · refine lv_iinc (v := mI (x3 + 1)) (lv' := [(3, .int (mI (x3 + 1))), (0, .ref (ad 86))]) hx hb dX12_comesOn_157 hl (k := 1) rfl (mI_add _ _) (by decide) rfl (fun ls hl => ?_)
        refine lv_goto (tgt := 128) hx hb dX12_comesOn_160 (by decide) ?_
        exact hk128 (x3 + 1) σ312 _ _ _ hw (lv_sub hl [1, 0] rfl) hf
      · refine lv_iconst (v := mI 0) hx hb dX12_comesOn_155 rfl ?_
        exact r_zret X hw dX12_comesOn_156 hf
def g_X12_comesOn_h48 (F : Nat)  : Nat → Int → Int → Int → mMem → mRs
  | 0, _, _, _, _ => none
  | n + 1, x1, x2, x3, σ => if mw (x1 - 1) ≤ mw x3 then (if 0 ≤ mw (x1 - 1) ∧ mw (x1 - 1) < (1800 : Int) then if mw (σ 87 (mw (x1 - 1)).toNat) = mw x2 then (mob (g_X12_copies F 1 0 σ) (fun r203 σ204 => mob (g_X12_twoBytes F 0 σ204) (fun r205 σ206 => if 0 ≤ mw 1 ∧ mw 1 < (22 : Int) then mlm (mup σ206 110 (mw 1).toNat r205) (fun σ207 => if 0 ≤ mw 2 ∧ mw 2 < (1800 : Int) then if 0 ≤ mw 1 ∧ mw 1 < (22 : Int) then mlm (mup σ207 111 (mw 1).toNat (σ207 87 (mw 2).toNat)) (fun σ208 => if 0 ≤ mw 1 ∧ mw 1 < (22 : Int) then mlm (mup σ208 117 (mw 1).toNat 0) (fun σ209 => g_X12_comesOn_h128 F F 0 σ209) else none) else none else none) else none))) else (if mw 0 = 0 ∨ mw 0 = 1 then some (0, σ) else none) else none) else (if 0 ≤ mw x3 ∧ mw x3 < (1800 : Int) then if mw 251 = 0 then none else (mlet ((mw ((5 * x2) + (σ 87 (mw x3).toNat))).tmod (mw 251)) (fun y210 => (g_X12_comesOn_h48 F n) x1 y210 (x3 + 1) σ)) else none)
set_option maxRecDepth 100000 in
set_option maxHeartbeats 4000000 in
theorem w_X12_comesOn_h48 {p : Program} {l : Launch} {e : Env} {s : State} {m : MethodId} {args : Array Value} {below : List Frame} {meth : Method} {c : Code} {D : va_G} {cy : Nat → ClassId} {ad : Nat → Nat} {bs : Nat} {F : Nat}  (X : mCx p m c cX12_comesOn 4 s args RX12 meth D cy (some .boolean))  {r : Int} {σ' : mMem}   (n : Nat) : ∀ {x1 x2 x3 : Int} {σ : mMem} {H : Heap} {locs : List Loc} {ls : Array Slot} (_ : mWd D cy ad bs true mN σ s.heap H locs) (_ : lv_has ls 4 [(0, .ref (ad 86)), (1, .int (mI x1)), (2, .int (mI x2)), (3, .int (mI x3))]) (_ : g_X12_comesOn_h48 F n x1 x2 x3 σ = some (r, σ')), mGi p l e 4 s m args below meth c D cy ad bs r σ' H locs (F0 m 48 ls []) := by
  obtain ⟨⟨hx, hb, -, -, -⟩, -⟩ := id X
  induction n with
  | zero =>
    intro x1 x2 x3 σ H locs ls hw hl hf
    unfold g_X12_comesOn_h48 at hf
    cases hf
  | succ n ih =>
    have hk48 : ∀ (x1 x2 x3 : Int) (σ : mMem) (H : Heap) (locs : List Loc) (ls : Array Slot), mWd D cy ad bs true mN σ s.heap H locs → lv_has ls 4 [(0, .ref (ad 86)), (1, .int (mI x1)), (2, .int (mI x2)), (3, .int (mI x3))] → g_X12_comesOn_h48 F n x1 x2 x3 σ = some (r, σ') → mGi p l e 4 s m args below meth c D cy ad bs r σ' H locs (F0 m 48 ls []) := fun x1 x2 x3 σ H locs ls hw hl hf => ih hw hl hf
    intro x1 x2 x3 σ H locs ls hw hl hf
    unfold g_X12_comesOn_h48 at hf
    refine lv_iload_n hx hb dX12_comesOn_48 rfl (lv_at hl 3 rfl) ?_
    refine lv_iload_n hx hb dX12_comesOn_49 rfl (lv_at hl 1 rfl) ?_
    refine lv_iconst (v := mI 1) hx hb dX12_comesOn_50 rfl ?_
    refine r_isub X dX12_comesOn_51 ?_
    refine r_icmp_ge (tgt := 76) X dX12_comesOn_52 (by decide) hf (fun hc hf => ?_) (fun hc hf => ?_)
    · refine lv_aload_n hx hb dX12_comesOn_76 rfl (lv_at hl 0 rfl) ?_
      refine r_getr 87 X hw sh_86 fd_12_0 rfl rfl lf_X12_7 dX12_comesOn_77 ?_
      refine lv_iload_n hx hb dX12_comesOn_80 rfl (lv_at hl 1 rfl) ?_
      refine lv_iconst (v := mI 1) hx hb dX12_comesOn_81 rfl ?_
      refine r_isub X dX12_comesOn_82 ?_
      refine r_iald (1800 : Int) rfl X hw sh_87 dX12_comesOn_83 hf (fun hf => ?_)
      refine lv_iload_n hx hb dX12_comesOn_84 rfl (lv_at hl 2 rfl) ?_
      refine r_icmp_eq (tgt := 90) X dX12_comesOn_85 (by decide) hf (fun hc hf => ?_) (fun hc hf => ?_)
      · refine lv_aload_n hx hb dX12_comesOn_90 rfl (lv_at hl 0 rfl) ?_
        refine lv_iconst (v := mI 1) hx hb dX12_comesOn_91 rfl ?_
        refine lv_iconst (v := mI 0) hx hb dX12_comesOn_92 rfl ?_
        refine r_cvv (rest := []) [.int (mI 1), .int (mI 0)] X hw (fun ra σa h => c_X12_copies l D cy ad bs F 1 0 σ ra σa  h) sh_86 rfl (by decide) rfl km_X12_copies kv_X12_copies lm_X12_421 dX12_comesOn_93 hl.1 rfl rfl (Nat.le_of_ble_eq_true rfl) ⟨by decide, by decide⟩ ⟨Nat.zero_le _, Nat.zero_le _⟩ hf (fun r203 σ204 _ hf H locs hw => ?_)
        refine lv_aload_n hx hb dX12_comesOn_96 rfl (lv_at hl 0 rfl) ?_
        refine r_getr 110 X hw sh_86 fd_12_43 rfl rfl lf_X12_144 dX12_comesOn_97 ?_
        refine lv_iconst (v := mI 1) hx hb dX12_comesOn_100 rfl ?_
        refine lv_aload_n hx hb dX12_comesOn_101 rfl (lv_at hl 0 rfl) ?_
        refine lv_iconst (v := mI 0) hx hb dX12_comesOn_102 rfl ?_
        refine r_cvi (rest := [.int (mI 1), .ref (ad 110)]) [.int (mI 0)] X hw (fun ra σa h => c_X12_twoBytes l D cy ad bs F 0 σ204 ra σa  h) sh_86 rfl (by decide) rfl km_X12_twoBytes kv_X12_twoBytes lm_X12_540 dX12_comesOn_103 hl.1 rfl rfl (Nat.le_of_ble_eq_true rfl) ⟨by decide, by decide⟩ ⟨Nat.zero_le _, Nat.zero_le _⟩ hf (fun r205 σ206 _ hf H locs hw => ?_)
        refine r_iast (22 : Int) rfl X hw sh_110 dX12_comesOn_106 hf (fun hf H locs hw => ?_)
        refine r_mem hf hw (fun σ207 hw hf => ?_)
        refine lv_aload_n hx hb dX12_comesOn_107 rfl (lv_at hl 0 rfl) ?_
        refine r_getr 111 X hw sh_86 fd_12_44 rfl rfl lf_X12_147 dX12_comesOn_108 ?_
        refine lv_iconst (v := mI 1) hx hb dX12_comesOn_111 rfl ?_
        refine lv_aload_n hx hb dX12_comesOn_112 rfl (lv_at hl 0 rfl) ?_
        refine r_getr 87 X hw sh_86 fd_12_0 rfl rfl lf_X12_7 dX12_comesOn_113 ?_
        refine lv_iconst (v := mI 2) hx hb dX12_comesOn_116 rfl ?_
        refine r_iald (1800 : Int) rfl X hw sh_87 dX12_comesOn_117 hf (fun hf => ?_)
        refine r_iast (22 : Int) rfl X hw sh_111 dX12_comesOn_118 hf (fun hf H locs hw => ?_)
        refine r_mem hf hw (fun σ208 hw hf => ?_)
        refine lv_aload_n hx hb dX12_comesOn_119 rfl (lv_at hl 0 rfl) ?_
        refine r_getr 117 X hw sh_86 fd_12_50 rfl rfl lf_X12_165 dX12_comesOn_120 ?_
        refine lv_iconst (v := mI 1) hx hb dX12_comesOn_123 rfl ?_
        refine lv_iconst (v := mI 0) hx hb dX12_comesOn_124 rfl ?_
        refine r_iast (22 : Int) rfl X hw sh_117 dX12_comesOn_125 hf (fun hf H locs hw => ?_)
        refine r_mem hf hw (fun σ209 hw hf => ?_)
        refine lv_iconst (v := mI 0) hx hb dX12_comesOn_126 rfl ?_
        refine lv_istore_n (lv' := [(3, .int (mI 0)), (0, .ref (ad 86)), (1, .int (mI x1)), (2, .int (mI x2))]) hx hb dX12_comesOn_127 rfl hl (by decide) rfl (fun ls hl => ?_)
        exact w_X12_comesOn_h128 X _ hw (lv_sub hl [1, 0] rfl) hf
      · refine lv_iconst (v := mI 0) hx hb dX12_comesOn_88 rfl ?_
        exact r_zret X hw dX12_comesOn_89 hf
    · refine lv_iconst (v := mI 5) hx hb dX12_comesOn_55 rfl ?_
      refine lv_iload_n hx hb dX12_comesOn_56 rfl (lv_at hl 2 rfl) ?_
      refine r_imul X dX12_comesOn_57 ?_
      refine lv_aload_n hx hb dX12_comesOn_58 rfl (lv_at hl 0 rfl) ?_
      refine r_getr 87 X hw sh_86 fd_12_0 rfl rfl lf_X12_7 dX12_comesOn_59 ?_
      refine lv_iload_n hx hb dX12_comesOn_62 rfl (lv_at hl 3 rfl) ?_
      refine r_iald (1800 : Int) rfl X hw sh_87 dX12_comesOn_63 hf (fun hf => ?_)
      refine r_iadd X dX12_comesOn_64 ?_
      refine lv_sipush (v := mI 251) hx hb dX12_comesOn_65 (by decide) ?_
      refine r_irem X dX12_comesOn_68 hf (fun hf => ?_)
      refine r_leti hf (fun y210 hf => ?_)
      refine lv_istore_n (lv' := [(2, .int (mI y210)), (0, .ref (ad 86)), (1, .int (mI x1)), (3, .int (mI x3))]) hx hb dX12_comesOn_69 rfl hl (by decide) rfl (fun ls hl => ?_)
      refine lv_iinc (v := mI (x3 + 1)) (lv' := [(3, .int (mI (x3 + 1))), (2, .int (mI y210)), (0, .ref (ad 86)), (1, .int (mI x1))]) hx hb dX12_comesOn_70 hl (k := 3) rfl (mI_add _ _) (by decide) rfl (fun ls hl => ?_)
      refine lv_goto (tgt := 48) hx hb dX12_comesOn_73 (by decide) ?_
      exact hk48 x1 y210 (x3 + 1) σ _ _ _ hw (lv_sub hl [2, 3, 1, 0] rfl) hf
def g_X12_comesOn (F : Nat) (x1 : Int) (σ : mMem) : mRs := if 0 ≤ mw (σ 86 13) ∧ mw (σ 86 13) < (2 : Int) then if ¬ mw x1 = mw (4 + (8 * (σ 91 (mw (σ 86 13)).toNat))) then (g_X12_comesOn_b40 F σ) else (mob (g_X12_twoBytes F 0 σ) (fun r1 σ2 => if mw 999 < mw r1 then (g_X12_comesOn_b40 F σ2) else (if 0 ≤ mw 2 ∧ mw 2 < (1800 : Int) then if mw (σ2 87 (mw 2).toNat) ≤ mw 9 then (g_X12_comesOn_h48 F F x1 179 0 σ2) else (g_X12_comesOn_b40 F σ2) else none))) else none
set_option maxRecDepth 100000 in
set_option maxHeartbeats 4000000 in
theorem c_X12_comesOn (l : Launch) (D : va_G) (cy : Nat → ClassId) (ad : Nat → Nat) (bs : Nat) (F : Nat)  (x1 : Int) (σ : mMem) (r : Int) (σ' : mMem)  (hf : g_X12_comesOn F x1 σ = some (r, σ')) : mCi l D cy ad bs yX12_comesOn cX12_comesOn 4 (some .boolean) 4 [.ref (ad 86), .int (mI x1)] σ r σ' := by
  refine mCi.of (lv := [(0, .ref (ad 86)), (1, .int (mI x1))]) km_X12_comesOn.2.2.2.2.2 (Nat.le_of_ble_eq_true rfl) rfl (fun p e s m args below meth c H locs ls X hw hl => ?_)
  obtain ⟨⟨hx, hb, -, -, -⟩, -⟩ := id X
  unfold g_X12_comesOn at hf
  refine lv_iload_n hx hb dX12_comesOn_0 rfl (lv_at hl 1 rfl) ?_
  refine lv_iconst (v := mI 4) hx hb dX12_comesOn_1 rfl ?_
  refine lv_bipush (v := mI 8) hx hb dX12_comesOn_2 (by decide) ?_
  refine lv_aload_n hx hb dX12_comesOn_4 rfl (lv_at hl 0 rfl) ?_
  refine r_getr 91 X hw sh_86 fd_12_17 rfl rfl lf_X12_63 dX12_comesOn_5 ?_
  refine lv_aload_n hx hb dX12_comesOn_8 rfl (lv_at hl 0 rfl) ?_
  refine r_geti X hw sh_86 fd_12_13 rfl lf_X12_51 dX12_comesOn_9 ?_
  refine r_iald (2 : Int) rfl X hw sh_91 dX12_comesOn_12 hf (fun hf => ?_)
  refine r_imul X dX12_comesOn_13 ?_
  refine r_iadd X dX12_comesOn_14 ?_
  refine r_icmp_ne (tgt := 40) X dX12_comesOn_15 (by decide) hf (fun hc hf => ?_) (fun hc hf => ?_)
  · exact w_X12_comesOn_b40 X hw (lv_sub hl [0] rfl) hf
  · refine lv_aload_n hx hb dX12_comesOn_18 rfl (lv_at hl 0 rfl) ?_
    refine lv_iconst (v := mI 0) hx hb dX12_comesOn_19 rfl ?_
    refine r_cvi (rest := []) [.int (mI 0)] X hw (fun ra σa h => c_X12_twoBytes l D cy ad bs F 0 σ ra σa  h) sh_86 rfl (by decide) rfl km_X12_twoBytes kv_X12_twoBytes lm_X12_540 dX12_comesOn_20 hl.1 rfl rfl (Nat.le_of_ble_eq_true rfl) ⟨by decide, by decide⟩ ⟨Nat.zero_le _, Nat.zero_le _⟩ hf (fun r1 σ2 _ hf H locs hw => ?_)
    refine lv_sipush (v := mI 999) hx hb dX12_comesOn_23 (by decide) ?_
    refine r_icmp_gt (tgt := 40) X dX12_comesOn_26 (by decide) hf (fun hc hf => ?_) (fun hc hf => ?_)
    · exact w_X12_comesOn_b40 X hw (lv_sub hl [0] rfl) hf
    · refine lv_aload_n hx hb dX12_comesOn_29 rfl (lv_at hl 0 rfl) ?_
      refine r_getr 87 X hw sh_86 fd_12_0 rfl rfl lf_X12_7 dX12_comesOn_30 ?_
      refine lv_iconst (v := mI 2) hx hb dX12_comesOn_33 rfl ?_
      refine r_iald (1800 : Int) rfl X hw sh_87 dX12_comesOn_34 hf (fun hf => ?_)
      refine lv_bipush (v := mI 9) hx hb dX12_comesOn_35 (by decide) ?_
      refine r_icmp_le (tgt := 42) X dX12_comesOn_37 (by decide) hf (fun hc hf => ?_) (fun hc hf => ?_)
      · refine lv_sipush (v := mI 179) hx hb dX12_comesOn_42 (by decide) ?_
        refine lv_istore_n (lv' := [(2, .int (mI 179)), (0, .ref (ad 86)), (1, .int (mI x1))]) hx hb dX12_comesOn_45 rfl hl (by decide) rfl (fun ls hl => ?_)
        refine lv_iconst (v := mI 0) hx hb dX12_comesOn_46 rfl ?_
        refine lv_istore_n (lv' := [(3, .int (mI 0)), (2, .int (mI 179)), (0, .ref (ad 86)), (1, .int (mI x1))]) hx hb dX12_comesOn_47 rfl hl (by decide) rfl (fun ls hl => ?_)
        exact w_X12_comesOn_h48 X _ hw (lv_sub hl [2, 3, 1, 0] rfl) hf
      · exact w_X12_comesOn_b40 X hw (lv_sub hl [0] rfl) hf
def g_X12_on__b31 (F : Nat)  (t0 : Int) (σ : mMem) : mRs := if mw t0 = 0 ∨ mw t0 = 1 then some (t0, σ) else none
set_option maxRecDepth 100000 in
set_option maxHeartbeats 4000000 in
theorem w_X12_on__b31 {p : Program} {l : Launch} {e : Env} {s : State} {m : MethodId} {args : Array Value} {below : List Frame} {meth : Method} {c : Code} {D : va_G} {cy : Nat → ClassId} {ad : Nat → Nat} {bs : Nat} {F : Nat}  (X : mCx p m c cX12_on_ 2 s args RX12 meth D cy (some .boolean))  {r : Int} {σ' : mMem}   {t0 : Int} {σ : mMem} {H : Heap} {locs : List Loc} {ls : Array Slot} (hw : mWd D cy ad bs true mN σ s.heap H locs) (hl : lv_has ls 2 [(0, .ref (ad 86))]) (hf : g_X12_on__b31 F t0 σ = some (r, σ')) : mGi p l e 5 s m args below meth c D cy ad bs r σ' H locs (F0 m 31 ls [.int (mI t0)]) := by
  obtain ⟨⟨hx, hb, -, -, -⟩, -⟩ := id X
  unfold g_X12_on__b31 at hf
  exact r_zret X hw dX12_on__31 hf
def g_X12_on_ (F : Nat) (σ : mMem) : mRs := mlet (σ 86 1) (fun y1 => mlm (mup σ 86 1 0) (fun σ2 => mob (g_X12_comesOn F y1 σ2) (fun r3 σ4 => if ¬ mw r3 = 0 then (mob (g_X12_copies F 0 1 σ4) (fun r5 σ6 => mlm (mup σ6 86 53 0) (fun σ7 => if mw 1 = 0 ∨ mw 1 = 1 then some (1, σ7) else none))) else (mob (g_X12_refuses F 5 σ4) (fun r8 σ9 => if mw r8 < 0 then (g_X12_on__b31 F 0 σ9) else (g_X12_on__b31 F 1 σ9))))))
set_option maxRecDepth 100000 in
set_option maxHeartbeats 4000000 in
theorem c_X12_on_ (l : Launch) (D : va_G) (cy : Nat → ClassId) (ad : Nat → Nat) (bs : Nat) (F : Nat)   (σ : mMem) (r : Int) (σ' : mMem)  (hf : g_X12_on_ F  σ = some (r, σ')) : mCi l D cy ad bs yX12_on_ cX12_on_ 2 (some .boolean) 5 [.ref (ad 86)] σ r σ' := by
  refine mCi.of (lv := [(0, .ref (ad 86))]) km_X12_on_.2.2.2.2.2 (Nat.le_of_ble_eq_true rfl) rfl (fun p e s m args below meth c H locs ls X hw hl => ?_)
  obtain ⟨⟨hx, hb, -, -, -⟩, -⟩ := id X
  unfold g_X12_on_ at hf
  refine lv_aload_n hx hb dX12_on__0 rfl (lv_at hl 0 rfl) ?_
  refine r_geti X hw sh_86 fd_12_1 rfl lf_X12_13 dX12_on__1 ?_
  refine r_leti hf (fun y1 hf => ?_)
  refine lv_istore_n (lv' := [(1, .int (mI y1)), (0, .ref (ad 86))]) hx hb dX12_on__4 rfl hl (by decide) rfl (fun ls hl => ?_)
  refine lv_aload_n hx hb dX12_on__5 rfl (lv_at hl 1 rfl) ?_
  refine lv_iconst (v := mI 0) hx hb dX12_on__6 rfl ?_
  refine r_puti X hw sh_86 fd_12_1 fp_12_1 rfl rfl lf_X12_13 dX12_on__7 (fun H locs hw => ?_)
  refine r_mem hf hw (fun σ2 hw hf => ?_)
  refine lv_aload_n hx hb dX12_on__10 rfl (lv_at hl 1 rfl) ?_
  refine lv_iload_n hx hb dX12_on__11 rfl (lv_at hl 0 rfl) ?_
  refine r_cvi (rest := []) [.int (mI y1)] X hw (fun ra σa h => c_X12_comesOn l D cy ad bs F y1 σ2 ra σa  h) sh_86 rfl (by decide) rfl km_X12_comesOn kv_X12_comesOn lm_X12_546 dX12_on__12 hl.1 rfl rfl (Nat.le_of_ble_eq_true rfl) ⟨by decide, by decide⟩ ⟨Nat.zero_le _, Nat.zero_le _⟩ hf (fun r3 σ4 _ hf H locs hw => ?_)
  refine r_if_ne (tgt := 32) X dX12_on__15 (by decide) hf (fun hc hf => ?_) (fun hc hf => ?_)
  · refine lv_aload_n hx hb dX12_on__32 rfl (lv_at hl 1 rfl) ?_
    refine lv_iconst (v := mI 0) hx hb dX12_on__33 rfl ?_
    refine lv_iconst (v := mI 1) hx hb dX12_on__34 rfl ?_
    refine r_cvv (rest := []) [.int (mI 0), .int (mI 1)] X hw (fun ra σa h => c_X12_copies l D cy ad bs F 0 1 σ4 ra σa  h) sh_86 rfl (by decide) rfl km_X12_copies kv_X12_copies lm_X12_421 dX12_on__35 hl.1 rfl rfl (Nat.le_of_ble_eq_true rfl) ⟨by decide, by decide⟩ ⟨Nat.zero_le _, Nat.zero_le _⟩ hf (fun r5 σ6 _ hf H locs hw => ?_)
    refine lv_aload_n hx hb dX12_on__38 rfl (lv_at hl 1 rfl) ?_
    refine lv_iconst (v := mI 0) hx hb dX12_on__39 rfl ?_
    refine r_puti X hw sh_86 fd_12_53 fp_12_53 rfl rfl lf_X12_174 dX12_on__40 (fun H locs hw => ?_)
    refine r_mem hf hw (fun σ7 hw hf => ?_)
    refine lv_iconst (v := mI 1) hx hb dX12_on__43 rfl ?_
    exact r_zret X hw dX12_on__44 hf
  · refine lv_aload_n hx hb dX12_on__18 rfl (lv_at hl 1 rfl) ?_
    refine lv_iconst (v := mI 5) hx hb dX12_on__19 rfl ?_
    refine r_cvi (rest := []) [.int (mI 5)] X hw (fun ra σa h => c_X12_refuses l D cy ad bs F 5 σ4 ra σa  h) sh_86 rfl (by decide) rfl km_X12_refuses kv_X12_refuses lm_X12_235 dX12_on__20 hl.1 rfl rfl (Nat.le_of_ble_eq_true rfl) ⟨by decide, by decide⟩ ⟨Nat.zero_le _, Nat.zero_le _⟩ hf (fun r8 σ9 _ hf H locs hw => ?_)
    refine r_if_lt (tgt := 30) X dX12_on__23 (by decide) hf (fun hc hf => ?_) (fun hc hf => ?_)
    · refine lv_iconst (v := mI 0) hx hb dX12_on__30 rfl ?_
      exact w_X12_on__b31 X hw (lv_sub hl [1] rfl) hf
    · refine lv_iconst (v := mI 1) hx hb dX12_on__26 rfl ?_
      refine lv_goto (tgt := 31) hx hb dX12_on__27 (by decide) ?_
      exact w_X12_on__b31 X hw (lv_sub hl [1] rfl) hf
