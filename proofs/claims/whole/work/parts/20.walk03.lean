/-- the contracts of the methods of Formula that call one another -/
def mRecC (l : Launch) (D : va_G) (cy : Nat → ClassId) (ad : Nat → Nat) (bs hh : Nat) (rc : Nat → Int → Int → mMem → mRs) : Prop :=
  (∀ (a b : Int) (σ : mMem) (r : Int) (σ' : mMem), rc 0 a b σ = some (r, σ') → mCv l D cy ad bs yX1_test cX1_test 3 none hh [.ref (ad 19), .int (mI a)] σ σ') ∧
  (∀ (a b : Int) (σ : mMem) (r : Int) (σ' : mMem), rc 1 a b σ = some (r, σ') → mCv l D cy ad bs yX1_both cX1_both 3 none hh [.ref (ad 19), .int (mI a)] σ σ') ∧
  (∀ (a b : Int) (σ : mMem) (r : Int) (σ' : mMem), rc 2 a b σ = some (r, σ') → mCv l D cy ad bs yX1_fact cX1_fact 2 none hh [.ref (ad 19), .int (mI a)] σ σ') ∧
  (∀ (a b : Int) (σ : mMem) (r : Int) (σ' : mMem), rc 3 a b σ = some (r, σ') → mCv l D cy ad bs yX1_comparison cX1_comparison 3 none hh [.ref (ad 19), .int (mI a)] σ σ') ∧
  (∀ (a b : Int) (σ : mMem) (r : Int) (σ' : mMem), rc 4 a b σ = some (r, σ') → mCv l D cy ad bs yX1_sum cX1_sum 4 none hh [.ref (ad 19), .int (mI a)] σ σ') ∧
  (∀ (a b : Int) (σ : mMem) (r : Int) (σ' : mMem), rc 5 a b σ = some (r, σ') → mCv l D cy ad bs yX1_product cX1_product 4 none hh [.ref (ad 19), .int (mI a)] σ σ') ∧
  (∀ (a b : Int) (σ : mMem) (r : Int) (σ' : mMem), rc 6 a b σ = some (r, σ') → mCv l D cy ad bs yX1_part cX1_part 2 none hh [.ref (ad 19), .int (mI a)] σ σ') ∧
  (∀ (a b : Int) (σ : mMem) (r : Int) (σ' : mMem), rc 7 a b σ = some (r, σ') → mCv l D cy ad bs yX1_choice cX1_choice 3 none hh [.ref (ad 19), .int (mI a), .int (mI b)] σ σ')
def g_X1_test_b54 (rc : Nat → Int → Int → mMem → mRs) (F : Nat)  (σ : mMem) : mRs := some (0, σ)
set_option maxRecDepth 100000 in
set_option maxHeartbeats 4000000 in
theorem w_X1_test_b54 {p : Program} {l : Launch} {e : Env} {s : State} {m : MethodId} {args : Array Value} {below : List Frame} {meth : Method} {c : Code} {D : va_G} {cy : Nat → ClassId} {ad : Nat → Nat} {bs : Nat} {F : Nat}  {rc : Nat → Int → Int → mMem → mRs} {hh : Nat} (hrec : mRecC l D cy ad bs hh rc) (hhh : 12 ≤ hh) (X : mCx p m c cX1_test 3 s args RX1 meth D cy none)  {r : Int} {σ' : mMem}    {σ : mMem} {H : Heap} {locs : List Loc} {ls : Array Slot} (hw : mWd D cy ad bs true mN σ s.heap H locs) (hl : lv_has ls 3 [(0, .ref (ad 19))]) (hf : g_X1_test_b54 rc F  σ = some (r, σ')) : mGv p l e (hh + 1) s m args below meth c D cy ad bs σ' H locs (F0 m 54 ls []) := by
  obtain ⟨⟨hx, hb, -, -, -⟩, -⟩ := id X
  unfold g_X1_test_b54 at hf
  exact r_vret X hw dX1_test_54 hf
def g_X1_test_h7 (rc : Nat → Int → Int → mMem → mRs) (F : Nat)  : Nat → Int → Int → mMem → mRs
  | 0, _, _, _ => none
  | n + 1, x1, x2, σ => if mw 1600 ≤ mw x2 then (g_X1_test_b54 rc F σ) else (mob (g_X8_isWord F 22 σ) (fun r103 σ104 => if mw r103 = 0 then (g_X1_test_b54 rc F σ104) else (mob (g_X8_next F σ104) (fun r105 σ106 => mob (rc 1 x1 0 σ106) (fun r107 σ108 => if σ108 19 1 = 3 ∨ σ108 19 1 = 8 then mob (g_X5_emit F (σ108 19 1).toNat 14 0 σ108) (fun r110 σ111 => (g_X1_test_h7 rc F n) x1 (x2 + 1) σ111) else none)))))
set_option maxRecDepth 100000 in
set_option maxHeartbeats 4000000 in
theorem w_X1_test_h7 {p : Program} {l : Launch} {e : Env} {s : State} {m : MethodId} {args : Array Value} {below : List Frame} {meth : Method} {c : Code} {D : va_G} {cy : Nat → ClassId} {ad : Nat → Nat} {bs : Nat} {F : Nat}  {rc : Nat → Int → Int → mMem → mRs} {hh : Nat} (hrec : mRecC l D cy ad bs hh rc) (hhh : 12 ≤ hh) (X : mCx p m c cX1_test 3 s args RX1 meth D cy none)  {r : Int} {σ' : mMem}   (n : Nat) : ∀ {x1 x2 : Int} {σ : mMem} {H : Heap} {locs : List Loc} {ls : Array Slot} (_ : mWd D cy ad bs true mN σ s.heap H locs) (_ : lv_has ls 3 [(0, .ref (ad 19)), (1, .int (mI x1)), (2, .int (mI x2))]) (_ : g_X1_test_h7 rc F n x1 x2 σ = some (r, σ')), mGv p l e (hh + 1) s m args below meth c D cy ad bs σ' H locs (F0 m 7 ls []) := by
  obtain ⟨⟨hx, hb, -, -, -⟩, -⟩ := id X
  induction n with
  | zero =>
    intro x1 x2 σ H locs ls hw hl hf
    unfold g_X1_test_h7 at hf
    cases hf
  | succ n ih =>
    have hk7 : ∀ (x1 x2 : Int) (σ : mMem) (H : Heap) (locs : List Loc) (ls : Array Slot), mWd D cy ad bs true mN σ s.heap H locs → lv_has ls 3 [(0, .ref (ad 19)), (1, .int (mI x1)), (2, .int (mI x2))] → g_X1_test_h7 rc F n x1 x2 σ = some (r, σ') → mGv p l e (hh + 1) s m args below meth c D cy ad bs σ' H locs (F0 m 7 ls []) := fun x1 x2 σ H locs ls hw hl hf => ih hw hl hf
    intro x1 x2 σ H locs ls hw hl hf
    unfold g_X1_test_h7 at hf
    refine lv_iload_n hx hb dX1_test_7 rfl (lv_at hl 2 rfl) ?_
    refine lv_sipush (v := mI 1600) hx hb dX1_test_8 (by decide) ?_
    refine r_icmp_ge (tgt := 54) X dX1_test_11 (by decide) hf (fun hc hf => ?_) (fun hc hf => ?_)
    · exact w_X1_test_b54 hrec hhh X hw (lv_sub hl [0] rfl) hf
    · refine lv_aload_n hx hb dX1_test_14 rfl (lv_at hl 0 rfl) ?_
      refine r_getr 14 X hw sh_19 fd_1_0 rfl rfl lf_X1_9 dX1_test_15 ?_
      refine lv_bipush (v := mI 22) hx hb dX1_test_18 (by decide) ?_
      refine r_cvi (rest := []) [.int (mI 22)] X hw (fun ra σa h => c_X8_isWord l D cy ad bs F 22 σ ra σa  h) sh_14 rfl (by decide) rfl km_X8_isWord kv_X8_isWord lm_X1_58 dX1_test_20 hl.1 rfl rfl (Nat.le_of_ble_eq_true rfl) ⟨by simp only [mRm]; omega, by simp only [mRm]; omega⟩ ⟨Nat.zero_le _, Nat.zero_le _⟩ hf (fun r103 σ104 _ hf H locs hw => ?_)
      refine r_if_eq (tgt := 54) X dX1_test_23 (by decide) hf (fun hc hf => ?_) (fun hc hf => ?_)
      · exact w_X1_test_b54 hrec hhh X hw (lv_sub hl [0] rfl) hf
      · refine lv_aload_n hx hb dX1_test_26 rfl (lv_at hl 0 rfl) ?_
        refine r_getr 14 X hw sh_19 fd_1_0 rfl rfl lf_X1_9 dX1_test_27 ?_
        refine r_cvv (rest := []) [] X hw (fun ra σa h => c_X8_next l D cy ad bs F σ104 ra σa  h) sh_14 rfl (by decide) rfl km_X8_next kv_X8_next lm_X1_23 dX1_test_30 hl.1 rfl rfl (Nat.le_of_ble_eq_true rfl) ⟨by simp only [mRm]; omega, by simp only [mRm]; omega⟩ ⟨Nat.zero_le _, Nat.zero_le _⟩ hf (fun r105 σ106 _ hf H locs hw => ?_)
        refine lv_aload_n hx hb dX1_test_33 rfl (lv_at hl 0 rfl) ?_
        refine lv_iload_n hx hb dX1_test_34 rfl (lv_at hl 1 rfl) ?_
        refine r_cvv (rest := []) [.int (mI x1)] X hw (fun ra σa h => hrec.2.1 x1 0 σ106 ra σa h) sh_19 rfl (by decide) rfl km_X1_both kv_X1_both lm_X1_53 dX1_test_35 hl.1 rfl rfl (Nat.le_of_ble_eq_true rfl) ⟨by simp only [mRm]; omega, by simp only [mRm]; omega⟩ ⟨Nat.zero_le _, Nat.zero_le _⟩ hf (fun r107 σ108 _ hf H locs hw => ?_)
        refine lv_aload_n hx hb dX1_test_38 rfl (lv_at hl 0 rfl) ?_
        refine r_getp X hw sh_19 fd_1_1 rfl lf_X1_15 dX1_test_39 hf (fun hg109 hf => ?_)
        refine lv_bipush (v := mI 14) hx hb dX1_test_42 (by decide) ?_
        refine lv_iconst (v := mI 0) hx hb dX1_test_44 rfl ?_
        refine r_cvv (rest := []) [.int (mI 14), .int (mI 0)] X hw (fun ra σa h => c_X5_emit l D cy ad bs F (σ108 19 1).toNat 14 0 σ108 ra σa (mPlan_z hg109) h) (mPlan_z hg109).1 rfl (by decide) rfl km_X5_emit kv_X5_emit lm_X1_64 dX1_test_45 hl.1 rfl rfl (Nat.le_of_ble_eq_true rfl) ⟨by simp only [mRm]; omega, by simp only [mRm]; omega⟩ ⟨Nat.zero_le _, Nat.zero_le _⟩ hf (fun r110 σ111 _ hf H locs hw => ?_)
        refine lv_iinc (v := mI (x2 + 1)) (lv' := [(2, .int (mI (x2 + 1))), (0, .ref (ad 19)), (1, .int (mI x1))]) hx hb dX1_test_48 hl (k := 2) rfl (mI_add _ _) (by decide) rfl (fun ls hl => ?_)
        refine lv_goto (tgt := 7) hx hb dX1_test_51 (by decide) ?_
        exact hk7 x1 (x2 + 1) σ111 _ _ _ hw (lv_sub hl [1, 2, 0] rfl) hf
def g_X1_test (rc : Nat → Int → Int → mMem → mRs) (F : Nat) (x1 : Int) (σ : mMem) : mRs := mob (rc 1 x1 0 σ) (fun r1 σ2 => g_X1_test_h7 rc F F x1 0 σ2)
set_option maxRecDepth 100000 in
set_option maxHeartbeats 4000000 in
theorem c_X1_test (l : Launch) (D : va_G) (cy : Nat → ClassId) (ad : Nat → Nat) (bs : Nat) (F : Nat) {rc : Nat → Int → Int → mMem → mRs} {hh : Nat} (hrec : mRecC l D cy ad bs hh rc) (hhh : 12 ≤ hh) (x1 : Int) (σ : mMem) (r : Int) (σ' : mMem) (hf : g_X1_test rc F x1 σ = some (r, σ')) : mCv l D cy ad bs yX1_test cX1_test 3 none (hh + 1) [.ref (ad 19), .int (mI x1)] σ σ' := by
  refine mCv.of (lv := [(0, .ref (ad 19)), (1, .int (mI x1))]) km_X1_test.2.2.2.2.2 (Nat.le_of_ble_eq_true rfl) rfl (fun p e s m args below meth c H locs ls X hw hl => ?_)
  obtain ⟨⟨hx, hb, -, -, -⟩, -⟩ := id X
  unfold g_X1_test at hf
  refine lv_aload_n hx hb dX1_test_0 rfl (lv_at hl 0 rfl) ?_
  refine lv_iload_n hx hb dX1_test_1 rfl (lv_at hl 1 rfl) ?_
  refine r_cvv (rest := []) [.int (mI x1)] X hw (fun ra σa h => hrec.2.1 x1 0 σ ra σa h) sh_19 rfl (by decide) rfl km_X1_both kv_X1_both lm_X1_53 dX1_test_2 hl.1 rfl rfl (Nat.le_of_ble_eq_true rfl) ⟨by simp only [mRm]; omega, by simp only [mRm]; omega⟩ ⟨Nat.zero_le _, Nat.zero_le _⟩ hf (fun r1 σ2 _ hf H locs hw => ?_)
  refine lv_iconst (v := mI 0) hx hb dX1_test_5 rfl ?_
  refine lv_istore_n (lv' := [(2, .int (mI 0)), (0, .ref (ad 19)), (1, .int (mI x1))]) hx hb dX1_test_6 rfl hl (by decide) rfl (fun ls hl => ?_)
  exact w_X1_test_h7 hrec hhh X _ hw (lv_sub hl [1, 2, 0] rfl) hf
def g_X1_both_b54 (rc : Nat → Int → Int → mMem → mRs) (F : Nat)  (σ : mMem) : mRs := some (0, σ)
set_option maxRecDepth 100000 in
set_option maxHeartbeats 4000000 in
theorem w_X1_both_b54 {p : Program} {l : Launch} {e : Env} {s : State} {m : MethodId} {args : Array Value} {below : List Frame} {meth : Method} {c : Code} {D : va_G} {cy : Nat → ClassId} {ad : Nat → Nat} {bs : Nat} {F : Nat}  {rc : Nat → Int → Int → mMem → mRs} {hh : Nat} (hrec : mRecC l D cy ad bs hh rc) (hhh : 12 ≤ hh) (X : mCx p m c cX1_both 3 s args RX1 meth D cy none)  {r : Int} {σ' : mMem}    {σ : mMem} {H : Heap} {locs : List Loc} {ls : Array Slot} (hw : mWd D cy ad bs true mN σ s.heap H locs) (hl : lv_has ls 3 [(0, .ref (ad 19))]) (hf : g_X1_both_b54 rc F  σ = some (r, σ')) : mGv p l e (hh + 1) s m args below meth c D cy ad bs σ' H locs (F0 m 54 ls []) := by
  obtain ⟨⟨hx, hb, -, -, -⟩, -⟩ := id X
  unfold g_X1_both_b54 at hf
  exact r_vret X hw dX1_both_54 hf
def g_X1_both_h7 (rc : Nat → Int → Int → mMem → mRs) (F : Nat)  : Nat → Int → Int → mMem → mRs
  | 0, _, _, _ => none
  | n + 1, x1, x2, σ => if mw 1600 ≤ mw x2 then (g_X1_both_b54 rc F σ) else (mob (g_X8_isWord F 23 σ) (fun r103 σ104 => if mw r103 = 0 then (g_X1_both_b54 rc F σ104) else (mob (g_X8_next F σ104) (fun r105 σ106 => mob (rc 2 x1 0 σ106) (fun r107 σ108 => if σ108 19 1 = 3 ∨ σ108 19 1 = 8 then mob (g_X5_emit F (σ108 19 1).toNat 13 0 σ108) (fun r110 σ111 => (g_X1_both_h7 rc F n) x1 (x2 + 1) σ111) else none)))))
set_option maxRecDepth 100000 in
set_option maxHeartbeats 4000000 in
theorem w_X1_both_h7 {p : Program} {l : Launch} {e : Env} {s : State} {m : MethodId} {args : Array Value} {below : List Frame} {meth : Method} {c : Code} {D : va_G} {cy : Nat → ClassId} {ad : Nat → Nat} {bs : Nat} {F : Nat}  {rc : Nat → Int → Int → mMem → mRs} {hh : Nat} (hrec : mRecC l D cy ad bs hh rc) (hhh : 12 ≤ hh) (X : mCx p m c cX1_both 3 s args RX1 meth D cy none)  {r : Int} {σ' : mMem}   (n : Nat) : ∀ {x1 x2 : Int} {σ : mMem} {H : Heap} {locs : List Loc} {ls : Array Slot} (_ : mWd D cy ad bs true mN σ s.heap H locs) (_ : lv_has ls 3 [(0, .ref (ad 19)), (1, .int (mI x1)), (2, .int (mI x2))]) (_ : g_X1_both_h7 rc F n x1 x2 σ = some (r, σ')), mGv p l e (hh + 1) s m args below meth c D cy ad bs σ' H locs (F0 m 7 ls []) := by
  obtain ⟨⟨hx, hb, -, -, -⟩, -⟩ := id X
  induction n with
  | zero =>
    intro x1 x2 σ H locs ls hw hl hf
    unfold g_X1_both_h7 at hf
    cases hf
  | succ n ih =>
    have hk7 : ∀ (x1 x2 : Int) (σ : mMem) (H : Heap) (locs : List Loc) (ls : Array Slot), mWd D cy ad bs true mN σ s.heap H locs → lv_has ls 3 [(0, .ref (ad 19)), (1, .int (mI x1)), (2, .int (mI x2))] → g_X1_both_h7 rc F n x1 x2 σ = some (r, σ') → mGv p l e (hh + 1) s m args below meth c D cy ad bs σ' H locs (F0 m 7 ls []) := fun x1 x2 σ H locs ls hw hl hf => ih hw hl hf
    intro x1 x2 σ H locs ls hw hl hf
    unfold g_X1_both_h7 at hf
    refine lv_iload_n hx hb dX1_both_7 rfl (lv_at hl 2 rfl) ?_
    refine lv_sipush (v := mI 1600) hx hb dX1_both_8 (by decide) ?_
    refine r_icmp_ge (tgt := 54) X dX1_both_11 (by decide) hf (fun hc hf => ?_) (fun hc hf => ?_)
    · exact w_X1_both_b54 hrec hhh X hw (lv_sub hl [0] rfl) hf
    · refine lv_aload_n hx hb dX1_both_14 rfl (lv_at hl 0 rfl) ?_
      refine r_getr 14 X hw sh_19 fd_1_0 rfl rfl lf_X1_9 dX1_both_15 ?_
      refine lv_bipush (v := mI 23) hx hb dX1_both_18 (by decide) ?_
      refine r_cvi (rest := []) [.int (mI 23)] X hw (fun ra σa h => c_X8_isWord l D cy ad bs F 23 σ ra σa  h) sh_14 rfl (by decide) rfl km_X8_isWord kv_X8_isWord lm_X1_58 dX1_both_20 hl.1 rfl rfl (Nat.le_of_ble_eq_true rfl) ⟨by simp only [mRm]; omega, by simp only [mRm]; omega⟩ ⟨Nat.zero_le _, Nat.zero_le _⟩ hf (fun r103 σ104 _ hf H locs hw => ?_)
      refine r_if_eq (tgt := 54) X dX1_both_23 (by decide) hf (fun hc hf => ?_) (fun hc hf => ?_)
      · exact w_X1_both_b54 hrec hhh X hw (lv_sub hl [0] rfl) hf
      · refine lv_aload_n hx hb dX1_both_26 rfl (lv_at hl 0 rfl) ?_
        refine r_getr 14 X hw sh_19 fd_1_0 rfl rfl lf_X1_9 dX1_both_27 ?_
        refine r_cvv (rest := []) [] X hw (fun ra σa h => c_X8_next l D cy ad bs F σ104 ra σa  h) sh_14 rfl (by decide) rfl km_X8_next kv_X8_next lm_X1_23 dX1_both_30 hl.1 rfl rfl (Nat.le_of_ble_eq_true rfl) ⟨by simp only [mRm]; omega, by simp only [mRm]; omega⟩ ⟨Nat.zero_le _, Nat.zero_le _⟩ hf (fun r105 σ106 _ hf H locs hw => ?_)
        refine lv_aload_n hx hb dX1_both_33 rfl (lv_at hl 0 rfl) ?_
        refine lv_iload_n hx hb dX1_both_34 rfl (lv_at hl 1 rfl) ?_
        refine r_cvv (rest := []) [.int (mI x1)] X hw (fun ra σa h => hrec.2.2.1 x1 0 σ106 ra σa h) sh_19 rfl (by decide) rfl km_X1_fact kv_X1_fact lm_X1_68 dX1_both_35 hl.1 rfl rfl (Nat.le_of_ble_eq_true rfl) ⟨by simp only [mRm]; omega, by simp only [mRm]; omega⟩ ⟨Nat.zero_le _, Nat.zero_le _⟩ hf (fun r107 σ108 _ hf H locs hw => ?_)
        refine lv_aload_n hx hb dX1_both_38 rfl (lv_at hl 0 rfl) ?_
        refine r_getp X hw sh_19 fd_1_1 rfl lf_X1_15 dX1_both_39 hf (fun hg109 hf => ?_)
        refine lv_bipush (v := mI 13) hx hb dX1_both_42 (by decide) ?_
        refine lv_iconst (v := mI 0) hx hb dX1_both_44 rfl ?_
        refine r_cvv (rest := []) [.int (mI 13), .int (mI 0)] X hw (fun ra σa h => c_X5_emit l D cy ad bs F (σ108 19 1).toNat 13 0 σ108 ra σa (mPlan_z hg109) h) (mPlan_z hg109).1 rfl (by decide) rfl km_X5_emit kv_X5_emit lm_X1_64 dX1_both_45 hl.1 rfl rfl (Nat.le_of_ble_eq_true rfl) ⟨by simp only [mRm]; omega, by simp only [mRm]; omega⟩ ⟨Nat.zero_le _, Nat.zero_le _⟩ hf (fun r110 σ111 _ hf H locs hw => ?_)
        refine lv_iinc (v := mI (x2 + 1)) (lv' := [(2, .int (mI (x2 + 1))), (0, .ref (ad 19)), (1, .int (mI x1))]) hx hb dX1_both_48 hl (k := 2) rfl (mI_add _ _) (by decide) rfl (fun ls hl => ?_)
        refine lv_goto (tgt := 7) hx hb dX1_both_51 (by decide) ?_
        exact hk7 x1 (x2 + 1) σ111 _ _ _ hw (lv_sub hl [1, 2, 0] rfl) hf
def g_X1_both (rc : Nat → Int → Int → mMem → mRs) (F : Nat) (x1 : Int) (σ : mMem) : mRs := mob (rc 2 x1 0 σ) (fun r1 σ2 => g_X1_both_h7 rc F F x1 0 σ2)
set_option maxRecDepth 100000 in
set_option maxHeartbeats 4000000 in
theorem c_X1_both (l : Launch) (D : va_G) (cy : Nat → ClassId) (ad : Nat → Nat) (bs : Nat) (F : Nat) {rc : Nat → Int → Int → mMem → mRs} {hh : Nat} (hrec : mRecC l D cy ad bs hh rc) (hhh : 12 ≤ hh) (x1 : Int) (σ : mMem) (r : Int) (σ' : mMem) (hf : g_X1_both rc F x1 σ = some (r, σ')) : mCv l D cy ad bs yX1_both cX1_both 3 none (hh + 1) [.ref (ad 19), .int (mI x1)] σ σ' := by
  refine mCv.of (lv := [(0, .ref (ad 19)), (1, .int (mI x1))]) km_X1_both.2.2.2.2.2 (Nat.le_of_ble_eq_true rfl) rfl (fun p e s m args below meth c H locs ls X hw hl => ?_)
  obtain ⟨⟨hx, hb, -, -, -⟩, -⟩ := id X
  unfold g_X1_both at hf
  refine lv_aload_n hx hb dX1_both_0 rfl (lv_at hl 0 rfl) ?_
  refine lv_iload_n hx hb dX1_both_1 rfl (lv_at hl 1 rfl) ?_
  refine r_cvv (rest := []) [.int (mI x1)] X hw (fun ra σa h => hrec.2.2.1 x1 0 σ ra σa h) sh_19 rfl (by decide) rfl km_X1_fact kv_X1_fact lm_X1_68 dX1_both_2 hl.1 rfl rfl (Nat.le_of_ble_eq_true rfl) ⟨by simp only [mRm]; omega, by simp only [mRm]; omega⟩ ⟨Nat.zero_le _, Nat.zero_le _⟩ hf (fun r1 σ2 _ hf H locs hw => ?_)
  refine lv_iconst (v := mI 0) hx hb dX1_both_5 rfl ?_
  refine lv_istore_n (lv' := [(2, .int (mI 0)), (0, .ref (ad 19)), (1, .int (mI x1))]) hx hb dX1_both_6 rfl hl (by decide) rfl (fun ls hl => ?_)
  exact w_X1_both_h7 hrec hhh X _ hw (lv_sub hl [1, 2, 0] rfl) hf
def g_X1_fact_b114 (rc : Nat → Int → Int → mMem → mRs) (F : Nat)  (σ : mMem) : mRs := some (0, σ)
set_option maxRecDepth 100000 in
set_option maxHeartbeats 4000000 in
theorem w_X1_fact_b114 {p : Program} {l : Launch} {e : Env} {s : State} {m : MethodId} {args : Array Value} {below : List Frame} {meth : Method} {c : Code} {D : va_G} {cy : Nat → ClassId} {ad : Nat → Nat} {bs : Nat} {F : Nat}  {rc : Nat → Int → Int → mMem → mRs} {hh : Nat} (hrec : mRecC l D cy ad bs hh rc) (hhh : 12 ≤ hh) (X : mCx p m c cX1_fact 2 s args RX1 meth D cy none)  {r : Int} {σ' : mMem}    {σ : mMem} {H : Heap} {locs : List Loc} {ls : Array Slot} (hw : mWd D cy ad bs true mN σ s.heap H locs) (hl : lv_has ls 2 [(0, .ref (ad 19))]) (hf : g_X1_fact_b114 rc F  σ = some (r, σ')) : mGv p l e (hh + 1) s m args below meth c D cy ad bs σ' H locs (F0 m 114 ls []) := by
  obtain ⟨⟨hx, hb, -, -, -⟩, -⟩ := id X
  unfold g_X1_fact_b114 at hf
  exact r_vret X hw dX1_fact_114 hf
def g_X1_fact (rc : Nat → Int → Int → mMem → mRs) (F : Nat) (x1 : Int) (σ : mMem) : mRs := mob (g_X8_isWord F 24 σ) (fun r1 σ2 => if mw r1 = 0 then (mob (g_X8_isMark F 91 σ2) (fun r3 σ4 => if mw r3 = 0 then (mob (g_X8_isWord F 25 σ4) (fun r5 σ6 => if mw r5 = 0 then (mob (rc 3 x1 0 σ6) (fun r7 σ8 => g_X1_fact_b114 rc F σ8)) else (mob (g_X8_next F σ6) (fun r9 σ10 => if σ10 19 1 = 3 ∨ σ10 19 1 = 8 then mob (g_X5_emit F (σ10 19 1).toNat 0 1 σ10) (fun r12 σ13 => g_X1_fact_b114 rc F σ13) else none)))) else (mob (g_X1_passOpening F x1 σ4) (fun r14 σ15 => if mw r14 = 0 then (g_X1_fact_b114 rc F σ15) else (mob (rc 0 (x1 + 1) 0 σ15) (fun r16 σ17 => mob (g_X8_takeMark F 93 σ17) (fun r18 σ19 => g_X1_fact_b114 rc F σ19))))))) else (mob (g_X1_passOpening F x1 σ2) (fun r20 σ21 => if mw r20 = 0 then (g_X1_fact_b114 rc F σ21) else (mob (rc 2 (x1 + 1) 0 σ21) (fun r22 σ23 => if σ23 19 1 = 3 ∨ σ23 19 1 = 8 then mob (g_X5_emit F (σ23 19 1).toNat 2 0 σ23) (fun r25 σ26 => g_X1_fact_b114 rc F σ26) else none)))))
set_option maxRecDepth 100000 in
set_option maxHeartbeats 4000000 in
theorem c_X1_fact (l : Launch) (D : va_G) (cy : Nat → ClassId) (ad : Nat → Nat) (bs : Nat) (F : Nat) {rc : Nat → Int → Int → mMem → mRs} {hh : Nat} (hrec : mRecC l D cy ad bs hh rc) (hhh : 12 ≤ hh) (x1 : Int) (σ : mMem) (r : Int) (σ' : mMem) (hf : g_X1_fact rc F x1 σ = some (r, σ')) : mCv l D cy ad bs yX1_fact cX1_fact 2 none (hh + 1) [.ref (ad 19), .int (mI x1)] σ σ' := by
  refine mCv.of (lv := [(0, .ref (ad 19)), (1, .int (mI x1))]) km_X1_fact.2.2.2.2.2 (Nat.le_of_ble_eq_true rfl) rfl (fun p e s m args below meth c H locs ls X hw hl => ?_)
  obtain ⟨⟨hx, hb, -, -, -⟩, -⟩ := id X
  unfold g_X1_fact at hf
  refine lv_aload_n hx hb dX1_fact_0 rfl (lv_at hl 0 rfl) ?_
  refine r_getr 14 X hw sh_19 fd_1_0 rfl rfl lf_X1_9 dX1_fact_1 ?_
  refine lv_bipush (v := mI 24) hx hb dX1_fact_4 (by decide) ?_
  refine r_cvi (rest := []) [.int (mI 24)] X hw (fun ra σa h => c_X8_isWord l D cy ad bs F 24 σ ra σa  h) sh_14 rfl (by decide) rfl km_X8_isWord kv_X8_isWord lm_X1_58 dX1_fact_6 hl.1 rfl rfl (Nat.le_of_ble_eq_true rfl) ⟨by simp only [mRm]; omega, by simp only [mRm]; omega⟩ ⟨Nat.zero_le _, Nat.zero_le _⟩ hf (fun r1 σ2 _ hf H locs hw => ?_)
  refine r_if_eq (tgt := 39) X dX1_fact_9 (by decide) hf (fun hc hf => ?_) (fun hc hf => ?_)
  · refine lv_aload_n hx hb dX1_fact_39 rfl (lv_at hl 0 rfl) ?_
    refine r_getr 14 X hw sh_19 fd_1_0 rfl rfl lf_X1_9 dX1_fact_40 ?_
    refine lv_bipush (v := mI 91) hx hb dX1_fact_43 (by decide) ?_
    refine r_cvi (rest := []) [.int (mI 91)] X hw (fun ra σa h => c_X8_isMark l D cy ad bs F 91 σ2 ra σa  h) sh_14 rfl (by decide) rfl km_X8_isMark kv_X8_isMark lm_X1_74 dX1_fact_45 hl.1 rfl rfl (Nat.le_of_ble_eq_true rfl) ⟨by simp only [mRm]; omega, by simp only [mRm]; omega⟩ ⟨Nat.zero_le _, Nat.zero_le _⟩ hf (fun r3 σ4 _ hf H locs hw => ?_)
    refine r_if_eq (tgt := 78) X dX1_fact_48 (by decide) hf (fun hc hf => ?_) (fun hc hf => ?_)
    · refine lv_aload_n hx hb dX1_fact_78 rfl (lv_at hl 0 rfl) ?_
      refine r_getr 14 X hw sh_19 fd_1_0 rfl rfl lf_X1_9 dX1_fact_79 ?_
      refine lv_bipush (v := mI 25) hx hb dX1_fact_82 (by decide) ?_
      refine r_cvi (rest := []) [.int (mI 25)] X hw (fun ra σa h => c_X8_isWord l D cy ad bs F 25 σ4 ra σa  h) sh_14 rfl (by decide) rfl km_X8_isWord kv_X8_isWord lm_X1_58 dX1_fact_84 hl.1 rfl rfl (Nat.le_of_ble_eq_true rfl) ⟨by simp only [mRm]; omega, by simp only [mRm]; omega⟩ ⟨Nat.zero_le _, Nat.zero_le _⟩ hf (fun r5 σ6 _ hf H locs hw => ?_)
      refine r_if_eq (tgt := 109) X dX1_fact_87 (by decide) hf (fun hc hf => ?_) (fun hc hf => ?_)
      · refine lv_aload_n hx hb dX1_fact_109 rfl (lv_at hl 0 rfl) ?_
        refine lv_iload_n hx hb dX1_fact_110 rfl (lv_at hl 1 rfl) ?_
        refine r_cvv (rest := []) [.int (mI x1)] X hw (fun ra σa h => hrec.2.2.2.1 x1 0 σ6 ra σa h) sh_19 rfl (by decide) rfl km_X1_comparison kv_X1_comparison lm_X1_82 dX1_fact_111 hl.1 rfl rfl (Nat.le_of_ble_eq_true rfl) ⟨by simp only [mRm]; omega, by simp only [mRm]; omega⟩ ⟨Nat.zero_le _, Nat.zero_le _⟩ hf (fun r7 σ8 _ hf H locs hw => ?_)
        exact w_X1_fact_b114 hrec hhh X hw (lv_sub hl [0] rfl) hf
      · refine lv_aload_n hx hb dX1_fact_90 rfl (lv_at hl 0 rfl) ?_
        refine r_getr 14 X hw sh_19 fd_1_0 rfl rfl lf_X1_9 dX1_fact_91 ?_
        refine r_cvv (rest := []) [] X hw (fun ra σa h => c_X8_next l D cy ad bs F σ6 ra σa  h) sh_14 rfl (by decide) rfl km_X8_next kv_X8_next lm_X1_23 dX1_fact_94 hl.1 rfl rfl (Nat.le_of_ble_eq_true rfl) ⟨by simp only [mRm]; omega, by simp only [mRm]; omega⟩ ⟨Nat.zero_le _, Nat.zero_le _⟩ hf (fun r9 σ10 _ hf H locs hw => ?_)
        refine lv_aload_n hx hb dX1_fact_97 rfl (lv_at hl 0 rfl) ?_
        refine r_getp X hw sh_19 fd_1_1 rfl lf_X1_15 dX1_fact_98 hf (fun hg11 hf => ?_)
        refine lv_iconst (v := mI 0) hx hb dX1_fact_101 rfl ?_
        refine lv_iconst (v := mI 1) hx hb dX1_fact_102 rfl ?_
        refine r_cvv (rest := []) [.int (mI 0), .int (mI 1)] X hw (fun ra σa h => c_X5_emit l D cy ad bs F (σ10 19 1).toNat 0 1 σ10 ra σa (mPlan_z hg11) h) (mPlan_z hg11).1 rfl (by decide) rfl km_X5_emit kv_X5_emit lm_X1_64 dX1_fact_103 hl.1 rfl rfl (Nat.le_of_ble_eq_true rfl) ⟨by simp only [mRm]; omega, by simp only [mRm]; omega⟩ ⟨Nat.zero_le _, Nat.zero_le _⟩ hf (fun r12 σ13 _ hf H locs hw => ?_)
        refine lv_goto (tgt := 114) hx hb dX1_fact_106 (by decide) ?_
        exact w_X1_fact_b114 hrec hhh X hw (lv_sub hl [0] rfl) hf
    · refine lv_aload_n hx hb dX1_fact_51 rfl (lv_at hl 0 rfl) ?_
      refine lv_iload_n hx hb dX1_fact_52 rfl (lv_at hl 1 rfl) ?_
      refine r_cvi (rest := []) [.int (mI x1)] X hw (fun ra σa h => c_X1_passOpening l D cy ad bs F x1 σ4 ra σa  h) sh_19 rfl (by decide) rfl km_X1_passOpening kv_X1_passOpening lm_X1_71 dX1_fact_53 hl.1 rfl rfl (Nat.le_of_ble_eq_true rfl) ⟨by simp only [mRm]; omega, by simp only [mRm]; omega⟩ ⟨Nat.zero_le _, Nat.zero_le _⟩ hf (fun r14 σ15 _ hf H locs hw => ?_)
      refine r_if_eq (tgt := 114) X dX1_fact_56 (by decide) hf (fun hc hf => ?_) (fun hc hf => ?_)
      · exact w_X1_fact_b114 hrec hhh X hw (lv_sub hl [0] rfl) hf
      · refine lv_aload_n hx hb dX1_fact_59 rfl (lv_at hl 0 rfl) ?_
        refine lv_iload_n hx hb dX1_fact_60 rfl (lv_at hl 1 rfl) ?_
        refine lv_iconst (v := mI 1) hx hb dX1_fact_61 rfl ?_
        refine r_iadd X dX1_fact_62 ?_
        refine r_cvv (rest := []) [.int (mI (x1 + 1))] X hw (fun ra σa h => hrec.1 (x1 + 1) 0 σ15 ra σa h) sh_19 rfl (by decide) rfl km_X1_test kv_X1_test lm_X1_47 dX1_fact_63 hl.1 rfl rfl (Nat.le_of_ble_eq_true rfl) ⟨by simp only [mRm]; omega, by simp only [mRm]; omega⟩ ⟨Nat.zero_le _, Nat.zero_le _⟩ hf (fun r16 σ17 _ hf H locs hw => ?_)
        refine lv_aload_n hx hb dX1_fact_66 rfl (lv_at hl 0 rfl) ?_
        refine r_getr 14 X hw sh_19 fd_1_0 rfl rfl lf_X1_9 dX1_fact_67 ?_
        refine lv_bipush (v := mI 93) hx hb dX1_fact_70 (by decide) ?_
        refine r_cvv (rest := []) [.int (mI 93)] X hw (fun ra σa h => c_X8_takeMark l D cy ad bs F 93 σ17 ra σa  h) sh_14 rfl (by decide) rfl km_X8_takeMark kv_X8_takeMark lm_X1_78 dX1_fact_72 hl.1 rfl rfl (Nat.le_of_ble_eq_true rfl) ⟨by simp only [mRm]; omega, by simp only [mRm]; omega⟩ ⟨Nat.zero_le _, Nat.zero_le _⟩ hf (fun r18 σ19 _ hf H locs hw => ?_)
        refine lv_goto (tgt := 114) hx hb dX1_fact_75 (by decide) ?_
        exact w_X1_fact_b114 hrec hhh X hw (lv_sub hl [0] rfl) hf
  · refine lv_aload_n hx hb dX1_fact_12 rfl (lv_at hl 0 rfl) ?_
    refine lv_iload_n hx hb dX1_fact_13 rfl (lv_at hl 1 rfl) ?_
    refine r_cvi (rest := []) [.int (mI x1)] X hw (fun ra σa h => c_X1_passOpening l D cy ad bs F x1 σ2 ra σa  h) sh_19 rfl (by decide) rfl km_X1_passOpening kv_X1_passOpening lm_X1_71 dX1_fact_14 hl.1 rfl rfl (Nat.le_of_ble_eq_true rfl) ⟨by simp only [mRm]; omega, by simp only [mRm]; omega⟩ ⟨Nat.zero_le _, Nat.zero_le _⟩ hf (fun r20 σ21 _ hf H locs hw => ?_)
    refine r_if_eq (tgt := 114) X dX1_fact_17 (by decide) hf (fun hc hf => ?_) (fun hc hf => ?_)
    · exact w_X1_fact_b114 hrec hhh X hw (lv_sub hl [0] rfl) hf
    · refine lv_aload_n hx hb dX1_fact_20 rfl (lv_at hl 0 rfl) ?_
      refine lv_iload_n hx hb dX1_fact_21 rfl (lv_at hl 1 rfl) ?_
      refine lv_iconst (v := mI 1) hx hb dX1_fact_22 rfl ?_
      refine r_iadd X dX1_fact_23 ?_
      refine r_cvv (rest := []) [.int (mI (x1 + 1))] X hw (fun ra σa h => hrec.2.2.1 (x1 + 1) 0 σ21 ra σa h) sh_19 rfl (by decide) rfl km_X1_fact kv_X1_fact lm_X1_68 dX1_fact_24 hl.1 rfl rfl (Nat.le_of_ble_eq_true rfl) ⟨by simp only [mRm]; omega, by simp only [mRm]; omega⟩ ⟨Nat.zero_le _, Nat.zero_le _⟩ hf (fun r22 σ23 _ hf H locs hw => ?_)
      refine lv_aload_n hx hb dX1_fact_27 rfl (lv_at hl 0 rfl) ?_
      refine r_getp X hw sh_19 fd_1_1 rfl lf_X1_15 dX1_fact_28 hf (fun hg24 hf => ?_)
      refine lv_iconst (v := mI 2) hx hb dX1_fact_31 rfl ?_
      refine lv_iconst (v := mI 0) hx hb dX1_fact_32 rfl ?_
      refine r_cvv (rest := []) [.int (mI 2), .int (mI 0)] X hw (fun ra σa h => c_X5_emit l D cy ad bs F (σ23 19 1).toNat 2 0 σ23 ra σa (mPlan_z hg24) h) (mPlan_z hg24).1 rfl (by decide) rfl km_X5_emit kv_X5_emit lm_X1_64 dX1_fact_33 hl.1 rfl rfl (Nat.le_of_ble_eq_true rfl) ⟨by simp only [mRm]; omega, by simp only [mRm]; omega⟩ ⟨Nat.zero_le _, Nat.zero_le _⟩ hf (fun r25 σ26 _ hf H locs hw => ?_)
      refine lv_goto (tgt := 114) hx hb dX1_fact_36 (by decide) ?_
      exact w_X1_fact_b114 hrec hhh X hw (lv_sub hl [0] rfl) hf
def g_X1_comparison_b70 (rc : Nat → Int → Int → mMem → mRs) (F : Nat)  (x1 x2 : Int) (σ : mMem) : mRs := mob (g_X8_next F σ) (fun r111 σ112 => mob (rc 4 x1 0 σ112) (fun r113 σ114 => if σ114 19 1 = 3 ∨ σ114 19 1 = 8 then mob (g_X5_emit F (σ114 19 1).toNat x2 0 σ114) (fun r116 σ117 => some (0, σ117)) else none))
set_option maxRecDepth 100000 in
set_option maxHeartbeats 4000000 in
theorem w_X1_comparison_b70 {p : Program} {l : Launch} {e : Env} {s : State} {m : MethodId} {args : Array Value} {below : List Frame} {meth : Method} {c : Code} {D : va_G} {cy : Nat → ClassId} {ad : Nat → Nat} {bs : Nat} {F : Nat}  {rc : Nat → Int → Int → mMem → mRs} {hh : Nat} (hrec : mRecC l D cy ad bs hh rc) (hhh : 12 ≤ hh) (X : mCx p m c cX1_comparison 3 s args RX1 meth D cy none)  {r : Int} {σ' : mMem}   {x1 x2 : Int} {σ : mMem} {H : Heap} {locs : List Loc} {ls : Array Slot} (hw : mWd D cy ad bs true mN σ s.heap H locs) (hl : lv_has ls 3 [(0, .ref (ad 19)), (1, .int (mI x1)), (2, .int (mI x2))]) (hf : g_X1_comparison_b70 rc F x1 x2 σ = some (r, σ')) : mGv p l e (hh + 1) s m args below meth c D cy ad bs σ' H locs (F0 m 70 ls []) := by
  obtain ⟨⟨hx, hb, -, -, -⟩, -⟩ := id X
  unfold g_X1_comparison_b70 at hf
  refine lv_aload_n hx hb dX1_comparison_70 rfl (lv_at hl 0 rfl) ?_
  refine r_getr 14 X hw sh_19 fd_1_0 rfl rfl lf_X1_9 dX1_comparison_71 ?_
  refine r_cvv (rest := []) [] X hw (fun ra σa h => c_X8_next l D cy ad bs F σ ra σa  h) sh_14 rfl (by decide) rfl km_X8_next kv_X8_next lm_X1_23 dX1_comparison_74 hl.1 rfl rfl (Nat.le_of_ble_eq_true rfl) ⟨by simp only [mRm]; omega, by simp only [mRm]; omega⟩ ⟨Nat.zero_le _, Nat.zero_le _⟩ hf (fun r111 σ112 _ hf H locs hw => ?_)
  refine lv_aload_n hx hb dX1_comparison_77 rfl (lv_at hl 0 rfl) ?_
  refine lv_iload_n hx hb dX1_comparison_78 rfl (lv_at hl 1 rfl) ?_
  refine r_cvv (rest := []) [.int (mI x1)] X hw (fun ra σa h => hrec.2.2.2.2.1 x1 0 σ112 ra σa h) sh_19 rfl (by decide) rfl km_X1_sum kv_X1_sum lm_X1_37 dX1_comparison_79 hl.1 rfl rfl (Nat.le_of_ble_eq_true rfl) ⟨by simp only [mRm]; omega, by simp only [mRm]; omega⟩ ⟨Nat.zero_le _, Nat.zero_le _⟩ hf (fun r113 σ114 _ hf H locs hw => ?_)
  refine lv_aload_n hx hb dX1_comparison_82 rfl (lv_at hl 0 rfl) ?_
  refine r_getp X hw sh_19 fd_1_1 rfl lf_X1_15 dX1_comparison_83 hf (fun hg115 hf => ?_)
  refine lv_iload_n hx hb dX1_comparison_86 rfl (lv_at hl 2 rfl) ?_
  refine lv_iconst (v := mI 0) hx hb dX1_comparison_87 rfl ?_
  refine r_cvv (rest := []) [.int (mI x2), .int (mI 0)] X hw (fun ra σa h => c_X5_emit l D cy ad bs F (σ114 19 1).toNat x2 0 σ114 ra σa (mPlan_z hg115) h) (mPlan_z hg115).1 rfl (by decide) rfl km_X5_emit kv_X5_emit lm_X1_64 dX1_comparison_88 hl.1 rfl rfl (Nat.le_of_ble_eq_true rfl) ⟨by simp only [mRm]; omega, by simp only [mRm]; omega⟩ ⟨Nat.zero_le _, Nat.zero_le _⟩ hf (fun r116 σ117 _ hf H locs hw => ?_)
  exact r_vret X hw dX1_comparison_91 hf
def g_X1_comparison (rc : Nat → Int → Int → mMem → mRs) (F : Nat) (x1 : Int) (σ : mMem) : mRs := mob (rc 4 x1 0 σ) (fun r1 σ2 => mob (g_X8_isMark F 60 σ2) (fun r3 σ4 => if mw r3 = 0 then (mob (g_X8_isMark F 62 σ4) (fun r5 σ6 => if mw r5 = 0 then (mob (g_X8_isMark F 61 σ6) (fun r7 σ8 => if mw r7 = 0 then (mob (g_X8_refuseHere F 1 σ8) (fun r9 σ10 => some (0, σ10))) else (g_X1_comparison_b70 rc F x1 12 σ8))) else (g_X1_comparison_b70 rc F x1 11 σ6))) else (g_X1_comparison_b70 rc F x1 10 σ4)))
set_option maxRecDepth 100000 in
set_option maxHeartbeats 4000000 in
theorem c_X1_comparison (l : Launch) (D : va_G) (cy : Nat → ClassId) (ad : Nat → Nat) (bs : Nat) (F : Nat) {rc : Nat → Int → Int → mMem → mRs} {hh : Nat} (hrec : mRecC l D cy ad bs hh rc) (hhh : 12 ≤ hh) (x1 : Int) (σ : mMem) (r : Int) (σ' : mMem) (hf : g_X1_comparison rc F x1 σ = some (r, σ')) : mCv l D cy ad bs yX1_comparison cX1_comparison 3 none (hh + 1) [.ref (ad 19), .int (mI x1)] σ σ' := by
  refine mCv.of (lv := [(0, .ref (ad 19)), (1, .int (mI x1))]) km_X1_comparison.2.2.2.2.2 (Nat.le_of_ble_eq_true rfl) rfl (fun p e s m args below meth c H locs ls X hw hl => ?_)
  obtain ⟨⟨hx, hb, -, -, -⟩, -⟩ := id X
  unfold g_X1_comparison at hf
  refine lv_aload_n hx hb dX1_comparison_0 rfl (lv_at hl 0 rfl) ?_
  refine lv_iload_n hx hb dX1_comparison_1 rfl (lv_at hl 1 rfl) ?_
  refine r_cvv (rest := []) [.int (mI x1)] X hw (fun ra σa h => hrec.2.2.2.2.1 x1 0 σ ra σa h) sh_19 rfl (by decide) rfl km_X1_sum kv_X1_sum lm_X1_37 dX1_comparison_2 hl.1 rfl rfl (Nat.le_of_ble_eq_true rfl) ⟨by simp only [mRm]; omega, by simp only [mRm]; omega⟩ ⟨Nat.zero_le _, Nat.zero_le _⟩ hf (fun r1 σ2 _ hf H locs hw => ?_)
  refine lv_iconst (v := mI (-1)) hx hb dX1_comparison_5 rfl ?_
  refine lv_istore_n (lv' := [(2, .int (mI (-1))), (0, .ref (ad 19)), (1, .int (mI x1))]) hx hb dX1_comparison_6 rfl hl (by decide) rfl (fun ls hl => ?_)
  refine lv_aload_n hx hb dX1_comparison_7 rfl (lv_at hl 1 rfl) ?_
  refine r_getr 14 X hw sh_19 fd_1_0 rfl rfl lf_X1_9 dX1_comparison_8 ?_
  refine lv_bipush (v := mI 60) hx hb dX1_comparison_11 (by decide) ?_
  refine r_cvi (rest := []) [.int (mI 60)] X hw (fun ra σa h => c_X8_isMark l D cy ad bs F 60 σ2 ra σa  h) sh_14 rfl (by decide) rfl km_X8_isMark kv_X8_isMark lm_X1_74 dX1_comparison_13 hl.1 rfl rfl (Nat.le_of_ble_eq_true rfl) ⟨by simp only [mRm]; omega, by simp only [mRm]; omega⟩ ⟨Nat.zero_le _, Nat.zero_le _⟩ hf (fun r3 σ4 _ hf H locs hw => ?_)
  refine r_if_eq (tgt := 25) X dX1_comparison_16 (by decide) hf (fun hc hf => ?_) (fun hc hf => ?_)
  · refine lv_aload_n hx hb dX1_comparison_25 rfl (lv_at hl 1 rfl) ?_
    refine r_getr 14 X hw sh_19 fd_1_0 rfl rfl lf_X1_9 dX1_comparison_26 ?_
    refine lv_bipush (v := mI 62) hx hb dX1_comparison_29 (by decide) ?_
    refine r_cvi (rest := []) [.int (mI 62)] X hw (fun ra σa h => c_X8_isMark l D cy ad bs F 62 σ4 ra σa  h) sh_14 rfl (by decide) rfl km_X8_isMark kv_X8_isMark lm_X1_74 dX1_comparison_31 hl.1 rfl rfl (Nat.le_of_ble_eq_true rfl) ⟨by simp only [mRm]; omega, by simp only [mRm]; omega⟩ ⟨Nat.zero_le _, Nat.zero_le _⟩ hf (fun r5 σ6 _ hf H locs hw => ?_)
    refine r_if_eq (tgt := 43) X dX1_comparison_34 (by decide) hf (fun hc hf => ?_) (fun hc hf => ?_)
    · refine lv_aload_n hx hb dX1_comparison_43 rfl (lv_at hl 1 rfl) ?_
      refine r_getr 14 X hw sh_19 fd_1_0 rfl rfl lf_X1_9 dX1_comparison_44 ?_
      refine lv_bipush (v := mI 61) hx hb dX1_comparison_47 (by decide) ?_
      refine r_cvi (rest := []) [.int (mI 61)] X hw (fun ra σa h => c_X8_isMark l D cy ad bs F 61 σ6 ra σa  h) sh_14 rfl (by decide) rfl km_X8_isMark kv_X8_isMark lm_X1_74 dX1_comparison_49 hl.1 rfl rfl (Nat.le_of_ble_eq_true rfl) ⟨by simp only [mRm]; omega, by simp only [mRm]; omega⟩ ⟨Nat.zero_le _, Nat.zero_le _⟩ hf (fun r7 σ8 _ hf H locs hw => ?_)
      refine r_if_eq (tgt := 61) X dX1_comparison_52 (by decide) hf (fun hc hf => ?_) (fun hc hf => ?_)
      · refine lv_aload_n hx hb dX1_comparison_61 rfl (lv_at hl 1 rfl) ?_
        refine r_getr 14 X hw sh_19 fd_1_0 rfl rfl lf_X1_9 dX1_comparison_62 ?_
        refine lv_iconst (v := mI 1) hx hb dX1_comparison_65 rfl ?_
        refine r_cvv (rest := []) [.int (mI 1)] X hw (fun ra σa h => c_X8_refuseHere l D cy ad bs F 1 σ8 ra σa  h) sh_14 rfl (by decide) rfl km_X8_refuseHere kv_X8_refuseHere lm_X1_85 dX1_comparison_66 hl.1 rfl rfl (Nat.le_of_ble_eq_true rfl) ⟨by simp only [mRm]; omega, by simp only [mRm]; omega⟩ ⟨Nat.zero_le _, Nat.zero_le _⟩ hf (fun r9 σ10 _ hf H locs hw => ?_)
        exact r_vret X hw dX1_comparison_69 hf
      · refine lv_bipush (v := mI 12) hx hb dX1_comparison_55 (by decide) ?_
        refine lv_istore_n (lv' := [(2, .int (mI 12)), (0, .ref (ad 19)), (1, .int (mI x1))]) hx hb dX1_comparison_57 rfl hl (by decide) rfl (fun ls hl => ?_)
        refine lv_goto (tgt := 70) hx hb dX1_comparison_58 (by decide) ?_
        exact w_X1_comparison_b70 hrec hhh X hw (lv_sub hl [1, 2, 0] rfl) hf
    · refine lv_bipush (v := mI 11) hx hb dX1_comparison_37 (by decide) ?_
      refine lv_istore_n (lv' := [(2, .int (mI 11)), (0, .ref (ad 19)), (1, .int (mI x1))]) hx hb dX1_comparison_39 rfl hl (by decide) rfl (fun ls hl => ?_)
      refine lv_goto (tgt := 70) hx hb dX1_comparison_40 (by decide) ?_
      exact w_X1_comparison_b70 hrec hhh X hw (lv_sub hl [1, 2, 0] rfl) hf
  · refine lv_bipush (v := mI 10) hx hb dX1_comparison_19 (by decide) ?_
    refine lv_istore_n (lv' := [(2, .int (mI 10)), (0, .ref (ad 19)), (1, .int (mI x1))]) hx hb dX1_comparison_21 rfl hl (by decide) rfl (fun ls hl => ?_)
    refine lv_goto (tgt := 70) hx hb dX1_comparison_22 (by decide) ?_
    exact w_X1_comparison_b70 hrec hhh X hw (lv_sub hl [1, 2, 0] rfl) hf
def g_X1_sum_b83 (rc : Nat → Int → Int → mMem → mRs) (F : Nat)  (σ : mMem) : mRs := some (0, σ)
set_option maxRecDepth 100000 in
set_option maxHeartbeats 4000000 in
theorem w_X1_sum_b83 {p : Program} {l : Launch} {e : Env} {s : State} {m : MethodId} {args : Array Value} {below : List Frame} {meth : Method} {c : Code} {D : va_G} {cy : Nat → ClassId} {ad : Nat → Nat} {bs : Nat} {F : Nat}  {rc : Nat → Int → Int → mMem → mRs} {hh : Nat} (hrec : mRecC l D cy ad bs hh rc) (hhh : 12 ≤ hh) (X : mCx p m c cX1_sum 4 s args RX1 meth D cy none)  {r : Int} {σ' : mMem}    {σ : mMem} {H : Heap} {locs : List Loc} {ls : Array Slot} (hw : mWd D cy ad bs true mN σ s.heap H locs) (hl : lv_has ls 4 [(0, .ref (ad 19))]) (hf : g_X1_sum_b83 rc F  σ = some (r, σ')) : mGv p l e (hh + 1) s m args below meth c D cy ad bs σ' H locs (F0 m 83 ls []) := by
  obtain ⟨⟨hx, hb, -, -, -⟩, -⟩ := id X
  unfold g_X1_sum_b83 at hf
  exact r_vret X hw dX1_sum_83 hf
def g_X1_sum_b55 (rc : Nat → Int → Int → mMem → mRs) (F : Nat) (k7 : Int → Int → mMem → mRs) (x1 x2 t0 : Int) (σ : mMem) : mRs := mob (g_X8_next F σ) (fun r409 σ410 => mob (rc 5 x1 0 σ410) (fun r411 σ412 => if σ412 19 1 = 3 ∨ σ412 19 1 = 8 then mob (g_X5_emit F (σ412 19 1).toNat t0 0 σ412) (fun r414 σ415 => k7 x1 (x2 + 1) σ415) else none))
set_option maxRecDepth 100000 in
set_option maxHeartbeats 4000000 in
theorem w_X1_sum_b55 {p : Program} {l : Launch} {e : Env} {s : State} {m : MethodId} {args : Array Value} {below : List Frame} {meth : Method} {c : Code} {D : va_G} {cy : Nat → ClassId} {ad : Nat → Nat} {bs : Nat} {F : Nat}  {rc : Nat → Int → Int → mMem → mRs} {hh : Nat} (hrec : mRecC l D cy ad bs hh rc) (hhh : 12 ≤ hh) (X : mCx p m c cX1_sum 4 s args RX1 meth D cy none)  {r : Int} {σ' : mMem} {k7 : Int → Int → mMem → mRs} (hk7 : ∀ (x1 x2 : Int) (σ : mMem) (H : Heap) (locs : List Loc) (ls : Array Slot), mWd D cy ad bs true mN σ s.heap H locs → lv_has ls 4 [(0, .ref (ad 19)), (1, .int (mI x1)), (2, .int (mI x2))] → k7 x1 x2 σ = some (r, σ') → mGv p l e (hh + 1) s m args below meth c D cy ad bs σ' H locs (F0 m 7 ls [])) {x1 x2 t0 : Int} {σ : mMem} {H : Heap} {locs : List Loc} {ls : Array Slot} (hw : mWd D cy ad bs true mN σ s.heap H locs) (hl : lv_has ls 4 [(0, .ref (ad 19)), (1, .int (mI x1)), (2, .int (mI x2))]) (hf : g_X1_sum_b55 rc F k7 x1 x2 t0 σ = some (r, σ')) : mGv p l e (hh + 1) s m args below meth c D cy ad bs σ' H locs (F0 m 55 ls [.int (mI t0)]) := by
  obtain ⟨⟨hx, hb, -, -, -⟩, -⟩ := id X
  unfold g_X1_sum_b55 at hf
  refine lv_istore_n (lv' := [(3, .int (mI t0)), (0, .ref (ad 19)), (1, .int (mI x1)), (2, .int (mI x2))]) hx hb dX1_sum_55 rfl hl (by decide) rfl (fun ls hl => ?_)
  refine lv_aload_n hx hb dX1_sum_56 rfl (lv_at hl 1 rfl) ?_
  refine r_getr 14 X hw sh_19 fd_1_0 rfl rfl lf_X1_9 dX1_sum_57 ?_
  refine r_cvv (rest := []) [] X hw (fun ra σa h => c_X8_next l D cy ad bs F σ ra σa  h) sh_14 rfl (by decide) rfl km_X8_next kv_X8_next lm_X1_23 dX1_sum_60 hl.1 rfl rfl (Nat.le_of_ble_eq_true rfl) ⟨by simp only [mRm]; omega, by simp only [mRm]; omega⟩ ⟨Nat.zero_le _, Nat.zero_le _⟩ hf (fun r409 σ410 _ hf H locs hw => ?_)
  refine lv_aload_n hx hb dX1_sum_63 rfl (lv_at hl 1 rfl) ?_
  refine lv_iload_n hx hb dX1_sum_64 rfl (lv_at hl 2 rfl) ?_
  refine r_cvv (rest := []) [.int (mI x1)] X hw (fun ra σa h => hrec.2.2.2.2.2.1 x1 0 σ410 ra σa h) sh_19 rfl (by decide) rfl km_X1_product kv_X1_product lm_X1_88 dX1_sum_65 hl.1 rfl rfl (Nat.le_of_ble_eq_true rfl) ⟨by simp only [mRm]; omega, by simp only [mRm]; omega⟩ ⟨Nat.zero_le _, Nat.zero_le _⟩ hf (fun r411 σ412 _ hf H locs hw => ?_)
  refine lv_aload_n hx hb dX1_sum_68 rfl (lv_at hl 1 rfl) ?_
  refine r_getp X hw sh_19 fd_1_1 rfl lf_X1_15 dX1_sum_69 hf (fun hg413 hf => ?_)
  refine lv_iload_n hx hb dX1_sum_72 rfl (lv_at hl 0 rfl) ?_
  refine lv_iconst (v := mI 0) hx hb dX1_sum_73 rfl ?_
  refine r_cvv (rest := []) [.int (mI t0), .int (mI 0)] X hw (fun ra σa h => c_X5_emit l D cy ad bs F (σ412 19 1).toNat t0 0 σ412 ra σa (mPlan_z hg413) h) (mPlan_z hg413).1 rfl (by decide) rfl km_X5_emit kv_X5_emit lm_X1_64 dX1_sum_74 hl.1 rfl rfl (Nat.le_of_ble_eq_true rfl) ⟨by simp only [mRm]; omega, by simp only [mRm]; omega⟩ ⟨Nat.zero_le _, Nat.zero_le _⟩ hf (fun r414 σ415 _ hf H locs hw => ?_)
  refine lv_iinc (v := mI (x2 + 1)) (lv' := [(2, .int (mI (x2 + 1))), (3, .int (mI t0)), (0, .ref (ad 19)), (1, .int (mI x1))]) hx hb dX1_sum_77 hl (k := 3) rfl (mI_add _ _) (by decide) rfl (fun ls hl => ?_)
  refine lv_goto (tgt := 7) hx hb dX1_sum_80 (by decide) ?_
  exact hk7 x1 (x2 + 1) σ415 _ _ _ hw (lv_sub hl [2, 3, 0] rfl) hf
def g_X1_sum_b38 (rc : Nat → Int → Int → mMem → mRs) (F : Nat) (k7 : Int → Int → mMem → mRs) (x1 x2 : Int) (σ : mMem) : mRs := mob (g_X8_isMark F 43 σ) (fun r307 σ308 => if mw r307 = 0 then (g_X1_sum_b55 rc F k7 x1 x2 4 σ308) else (g_X1_sum_b55 rc F k7 x1 x2 3 σ308))
set_option maxRecDepth 100000 in
set_option maxHeartbeats 4000000 in
theorem w_X1_sum_b38 {p : Program} {l : Launch} {e : Env} {s : State} {m : MethodId} {args : Array Value} {below : List Frame} {meth : Method} {c : Code} {D : va_G} {cy : Nat → ClassId} {ad : Nat → Nat} {bs : Nat} {F : Nat}  {rc : Nat → Int → Int → mMem → mRs} {hh : Nat} (hrec : mRecC l D cy ad bs hh rc) (hhh : 12 ≤ hh) (X : mCx p m c cX1_sum 4 s args RX1 meth D cy none)  {r : Int} {σ' : mMem} {k7 : Int → Int → mMem → mRs} (hk7 : ∀ (x1 x2 : Int) (σ : mMem) (H : Heap) (locs : List Loc) (ls : Array Slot), mWd D cy ad bs true mN σ s.heap H locs → lv_has ls 4 [(0, .ref (ad 19)), (1, .int (mI x1)), (2, .int (mI x2))] → k7 x1 x2 σ = some (r, σ') → mGv p l e (hh + 1) s m args below meth c D cy ad bs σ' H locs (F0 m 7 ls [])) {x1 x2 : Int} {σ : mMem} {H : Heap} {locs : List Loc} {ls : Array Slot} (hw : mWd D cy ad bs true mN σ s.heap H locs) (hl : lv_has ls 4 [(0, .ref (ad 19)), (1, .int (mI x1)), (2, .int (mI x2))]) (hf : g_X1_sum_b38 rc F k7 x1 x2 σ = some (r, σ')) : mGv p l e (hh + 1) s m args below meth c D cy ad bs σ' H locs (F0 m 38 ls []) := by
  obtain ⟨⟨hx, hb, -, -, -⟩, -⟩ := id X
  unfold g_X1_sum_b38 at hf
  refine lv_aload_n hx hb dX1_sum_38 rfl (lv_at hl 0 rfl) ?_
  refine r_getr 14 X hw sh_19 fd_1_0 rfl rfl lf_X1_9 dX1_sum_39 ?_
  refine lv_bipush (v := mI 43) hx hb dX1_sum_42 (by decide) ?_
  refine r_cvi (rest := []) [.int (mI 43)] X hw (fun ra σa h => c_X8_isMark l D cy ad bs F 43 σ ra σa  h) sh_14 rfl (by decide) rfl km_X8_isMark kv_X8_isMark lm_X1_74 dX1_sum_44 hl.1 rfl rfl (Nat.le_of_ble_eq_true rfl) ⟨by simp only [mRm]; omega, by simp only [mRm]; omega⟩ ⟨Nat.zero_le _, Nat.zero_le _⟩ hf (fun r307 σ308 _ hf H locs hw => ?_)
  refine r_if_eq (tgt := 54) X dX1_sum_47 (by decide) hf (fun hc hf => ?_) (fun hc hf => ?_)
  · refine lv_iconst (v := mI 4) hx hb dX1_sum_54 rfl ?_
    exact w_X1_sum_b55 hrec hhh X hk7 hw (lv_sub hl [0, 1, 2] rfl) hf
  · refine lv_iconst (v := mI 3) hx hb dX1_sum_50 rfl ?_
    refine lv_goto (tgt := 55) hx hb dX1_sum_51 (by decide) ?_
    exact w_X1_sum_b55 hrec hhh X hk7 hw (lv_sub hl [0, 1, 2] rfl) hf
def g_X1_sum_h7 (rc : Nat → Int → Int → mMem → mRs) (F : Nat)  : Nat → Int → Int → mMem → mRs
  | 0, _, _, _ => none
  | n + 1, x1, x2, σ => if mw 1600 ≤ mw x2 then (g_X1_sum_b83 rc F σ) else (mob (g_X8_isMark F 43 σ) (fun r103 σ104 => if ¬ mw r103 = 0 then (g_X1_sum_b38 rc F (g_X1_sum_h7 rc F n) x1 x2 σ104) else (mob (g_X8_isMark F 45 σ104) (fun r105 σ106 => if mw r105 = 0 then (g_X1_sum_b83 rc F σ106) else (g_X1_sum_b38 rc F (g_X1_sum_h7 rc F n) x1 x2 σ106)))))
set_option maxRecDepth 100000 in
set_option maxHeartbeats 4000000 in
theorem w_X1_sum_h7 {p : Program} {l : Launch} {e : Env} {s : State} {m : MethodId} {args : Array Value} {below : List Frame} {meth : Method} {c : Code} {D : va_G} {cy : Nat → ClassId} {ad : Nat → Nat} {bs : Nat} {F : Nat}  {rc : Nat → Int → Int → mMem → mRs} {hh : Nat} (hrec : mRecC l D cy ad bs hh rc) (hhh : 12 ≤ hh) (X : mCx p m c cX1_sum 4 s args RX1 meth D cy none)  {r : Int} {σ' : mMem}   (n : Nat) : ∀ {x1 x2 : Int} {σ : mMem} {H : Heap} {locs : List Loc} {ls : Array Slot} (_ : mWd D cy ad bs true mN σ s.heap H locs) (_ : lv_has ls 4 [(0, .ref (ad 19)), (1, .int (mI x1)), (2, .int (mI x2))]) (_ : g_X1_sum_h7 rc F n x1 x2 σ = some (r, σ')), mGv p l e (hh + 1) s m args below meth c D cy ad bs σ' H locs (F0 m 7 ls []) := by
  obtain ⟨⟨hx, hb, -, -, -⟩, -⟩ := id X
  induction n with
  | zero =>
    intro x1 x2 σ H locs ls hw hl hf
    unfold g_X1_sum_h7 at hf
    cases hf
  | succ n ih =>
    have hk7 : ∀ (x1 x2 : Int) (σ : mMem) (H : Heap) (locs : List Loc) (ls : Array Slot), mWd D cy ad bs true mN σ s.heap H locs → lv_has ls 4 [(0, .ref (ad 19)), (1, .int (mI x1)), (2, .int (mI x2))] → g_X1_sum_h7 rc F n x1 x2 σ = some (r, σ') → mGv p l e (hh + 1) s m args below meth c D cy ad bs σ' H locs (F0 m 7 ls []) := fun x1 x2 σ H locs ls hw hl hf => ih hw hl hf
    intro x1 x2 σ H locs ls hw hl hf
    unfold g_X1_sum_h7 at hf
    refine lv_iload_n hx hb dX1_sum_7 rfl (lv_at hl 2 rfl) ?_
    refine lv_sipush (v := mI 1600) hx hb dX1_sum_8 (by decide) ?_
    refine r_icmp_ge (tgt := 83) X dX1_sum_11 (by decide) hf (fun hc hf => ?_) (fun hc hf => ?_)
    · exact w_X1_sum_b83 hrec hhh X hw (lv_sub hl [0] rfl) hf
    · refine lv_aload_n hx hb dX1_sum_14 rfl (lv_at hl 0 rfl) ?_
      refine r_getr 14 X hw sh_19 fd_1_0 rfl rfl lf_X1_9 dX1_sum_15 ?_
      refine lv_bipush (v := mI 43) hx hb dX1_sum_18 (by decide) ?_
      refine r_cvi (rest := []) [.int (mI 43)] X hw (fun ra σa h => c_X8_isMark l D cy ad bs F 43 σ ra σa  h) sh_14 rfl (by decide) rfl km_X8_isMark kv_X8_isMark lm_X1_74 dX1_sum_20 hl.1 rfl rfl (Nat.le_of_ble_eq_true rfl) ⟨by simp only [mRm]; omega, by simp only [mRm]; omega⟩ ⟨Nat.zero_le _, Nat.zero_le _⟩ hf (fun r103 σ104 _ hf H locs hw => ?_)
      refine r_if_ne (tgt := 38) X dX1_sum_23 (by decide) hf (fun hc hf => ?_) (fun hc hf => ?_)
      · exact w_X1_sum_b38 hrec hhh X hk7 hw (lv_sub hl [0, 1, 2] rfl) hf
      · refine lv_aload_n hx hb dX1_sum_26 rfl (lv_at hl 0 rfl) ?_
        refine r_getr 14 X hw sh_19 fd_1_0 rfl rfl lf_X1_9 dX1_sum_27 ?_
        refine lv_bipush (v := mI 45) hx hb dX1_sum_30 (by decide) ?_
        refine r_cvi (rest := []) [.int (mI 45)] X hw (fun ra σa h => c_X8_isMark l D cy ad bs F 45 σ104 ra σa  h) sh_14 rfl (by decide) rfl km_X8_isMark kv_X8_isMark lm_X1_74 dX1_sum_32 hl.1 rfl rfl (Nat.le_of_ble_eq_true rfl) ⟨by simp only [mRm]; omega, by simp only [mRm]; omega⟩ ⟨Nat.zero_le _, Nat.zero_le _⟩ hf (fun r105 σ106 _ hf H locs hw => ?_)
        refine r_if_eq (tgt := 83) X dX1_sum_35 (by decide) hf (fun hc hf => ?_) (fun hc hf => ?_)
        · exact w_X1_sum_b83 hrec hhh X hw (lv_sub hl [0] rfl) hf
        · exact w_X1_sum_b38 hrec hhh X hk7 hw (lv_sub hl [0, 1, 2] rfl) hf
def g_X1_sum (rc : Nat → Int → Int → mMem → mRs) (F : Nat) (x1 : Int) (σ : mMem) : mRs := mob (rc 5 x1 0 σ) (fun r1 σ2 => g_X1_sum_h7 rc F F x1 0 σ2)
set_option maxRecDepth 100000 in
set_option maxHeartbeats 4000000 in
theorem c_X1_sum (l : Launch) (D : va_G) (cy : Nat → ClassId) (ad : Nat → Nat) (bs : Nat) (F : Nat) {rc : Nat → Int → Int → mMem → mRs} {hh : Nat} (hrec : mRecC l D cy ad bs hh rc) (hhh : 12 ≤ hh) (x1 : Int) (σ : mMem) (r : Int) (σ' : mMem) (hf : g_X1_sum rc F x1 σ = some (r, σ')) : mCv l D cy ad bs yX1_sum cX1_sum 4 none (hh + 1) [.ref (ad 19), .int (mI x1)] σ σ' := by
  refine mCv.of (lv := [(0, .ref (ad 19)), (1, .int (mI x1))]) km_X1_sum.2.2.2.2.2 (Nat.le_of_ble_eq_true rfl) rfl (fun p e s m args below meth c H locs ls X hw hl => ?_)
  obtain ⟨⟨hx, hb, -, -, -⟩, -⟩ := id X
  unfold g_X1_sum at hf
  refine lv_aload_n hx hb dX1_sum_0 rfl (lv_at hl 0 rfl) ?_
  refine lv_iload_n hx hb dX1_sum_1 rfl (lv_at hl 1 rfl) ?_
  refine r_cvv (rest := []) [.int (mI x1)] X hw (fun ra σa h => hrec.2.2.2.2.2.1 x1 0 σ ra σa h) sh_19 rfl (by decide) rfl km_X1_product kv_X1_product lm_X1_88 dX1_sum_2 hl.1 rfl rfl (Nat.le_of_ble_eq_true rfl) ⟨by simp only [mRm]; omega, by simp only [mRm]; omega⟩ ⟨Nat.zero_le _, Nat.zero_le _⟩ hf (fun r1 σ2 _ hf H locs hw => ?_)
  refine lv_iconst (v := mI 0) hx hb dX1_sum_5 rfl ?_
  refine lv_istore_n (lv' := [(2, .int (mI 0)), (0, .ref (ad 19)), (1, .int (mI x1))]) hx hb dX1_sum_6 rfl hl (by decide) rfl (fun ls hl => ?_)
  exact w_X1_sum_h7 hrec hhh X _ hw (lv_sub hl [1, 2, 0] rfl) hf
def g_X1_product_b56 (rc : Nat → Int → Int → mMem → mRs) (F : Nat)  (σ : mMem) : mRs := some (0, σ)
set_option maxRecDepth 100000 in
set_option maxHeartbeats 4000000 in
theorem w_X1_product_b56 {p : Program} {l : Launch} {e : Env} {s : State} {m : MethodId} {args : Array Value} {below : List Frame} {meth : Method} {c : Code} {D : va_G} {cy : Nat → ClassId} {ad : Nat → Nat} {bs : Nat} {F : Nat}  {rc : Nat → Int → Int → mMem → mRs} {hh : Nat} (hrec : mRecC l D cy ad bs hh rc) (hhh : 12 ≤ hh) (X : mCx p m c cX1_product 4 s args RX1 meth D cy none)  {r : Int} {σ' : mMem}    {σ : mMem} {H : Heap} {locs : List Loc} {ls : Array Slot} (hw : mWd D cy ad bs true mN σ s.heap H locs) (hl : lv_has ls 4 [(0, .ref (ad 19))]) (hf : g_X1_product_b56 rc F  σ = some (r, σ')) : mGv p l e (hh + 1) s m args below meth c D cy ad bs σ' H locs (F0 m 56 ls []) := by
  obtain ⟨⟨hx, hb, -, -, -⟩, -⟩ := id X
  unfold g_X1_product_b56 at hf
  exact r_vret X hw dX1_product_56 hf
def g_X1_product_h12 (rc : Nat → Int → Int → mMem → mRs) (F : Nat)  : Nat → Int → Int → Int → mMem → mRs
  | 0, _, _, _, _ => none
  | n + 1, x1, x2, x3, σ => if mw 1600 ≤ mw x3 then (g_X1_product_b56 rc F σ) else (if mw x2 = mw (-1) then (g_X1_product_b56 rc F σ) else (mob (g_X8_next F σ) (fun r105 σ106 => mob (rc 6 x1 0 σ106) (fun r107 σ108 => if σ108 19 1 = 3 ∨ σ108 19 1 = 8 then mob (g_X5_emit F (σ108 19 1).toNat x2 0 σ108) (fun r110 σ111 => mob (g_X1_productSign F σ111) (fun r112 σ113 => (g_X1_product_h12 rc F n) x1 r112 (x3 + 1) σ113)) else none))))
set_option maxRecDepth 100000 in
set_option maxHeartbeats 4000000 in
theorem w_X1_product_h12 {p : Program} {l : Launch} {e : Env} {s : State} {m : MethodId} {args : Array Value} {below : List Frame} {meth : Method} {c : Code} {D : va_G} {cy : Nat → ClassId} {ad : Nat → Nat} {bs : Nat} {F : Nat}  {rc : Nat → Int → Int → mMem → mRs} {hh : Nat} (hrec : mRecC l D cy ad bs hh rc) (hhh : 12 ≤ hh) (X : mCx p m c cX1_product 4 s args RX1 meth D cy none)  {r : Int} {σ' : mMem}   (n : Nat) : ∀ {x1 x2 x3 : Int} {σ : mMem} {H : Heap} {locs : List Loc} {ls : Array Slot} (_ : mWd D cy ad bs true mN σ s.heap H locs) (_ : lv_has ls 4 [(0, .ref (ad 19)), (1, .int (mI x1)), (2, .int (mI x2)), (3, .int (mI x3))]) (_ : g_X1_product_h12 rc F n x1 x2 x3 σ = some (r, σ')), mGv p l e (hh + 1) s m args below meth c D cy ad bs σ' H locs (F0 m 12 ls []) := by
  obtain ⟨⟨hx, hb, -, -, -⟩, -⟩ := id X
  induction n with
  | zero =>
    intro x1 x2 x3 σ H locs ls hw hl hf
    unfold g_X1_product_h12 at hf
    cases hf
  | succ n ih =>
    have hk12 : ∀ (x1 x2 x3 : Int) (σ : mMem) (H : Heap) (locs : List Loc) (ls : Array Slot), mWd D cy ad bs true mN σ s.heap H locs → lv_has ls 4 [(0, .ref (ad 19)), (1, .int (mI x1)), (2, .int (mI x2)), (3, .int (mI x3))] → g_X1_product_h12 rc F n x1 x2 x3 σ = some (r, σ') → mGv p l e (hh + 1) s m args below meth c D cy ad bs σ' H locs (F0 m 12 ls []) := fun x1 x2 x3 σ H locs ls hw hl hf => ih hw hl hf
    intro x1 x2 x3 σ H locs ls hw hl hf
    unfold g_X1_product_h12 at hf
    refine lv_iload_n hx hb dX1_product_12 rfl (lv_at hl 3 rfl) ?_
    refine lv_sipush (v := mI 1600) hx hb dX1_product_13 (by decide) ?_
    refine r_icmp_ge (tgt := 56) X dX1_product_16 (by decide) hf (fun hc hf => ?_) (fun hc hf => ?_)
    · exact w_X1_product_b56 hrec hhh X hw (lv_sub hl [0] rfl) hf
    · refine lv_iload_n hx hb dX1_product_19 rfl (lv_at hl 2 rfl) ?_
      refine lv_iconst (v := mI (-1)) hx hb dX1_product_20 rfl ?_
      refine r_icmp_eq (tgt := 56) X dX1_product_21 (by decide) hf (fun hc hf => ?_) (fun hc hf => ?_)
      · exact w_X1_product_b56 hrec hhh X hw (lv_sub hl [0] rfl) hf
      · refine lv_aload_n hx hb dX1_product_24 rfl (lv_at hl 0 rfl) ?_
        refine r_getr 14 X hw sh_19 fd_1_0 rfl rfl lf_X1_9 dX1_product_25 ?_
        refine r_cvv (rest := []) [] X hw (fun ra σa h => c_X8_next l D cy ad bs F σ ra σa  h) sh_14 rfl (by decide) rfl km_X8_next kv_X8_next lm_X1_23 dX1_product_28 hl.1 rfl rfl (Nat.le_of_ble_eq_true rfl) ⟨by simp only [mRm]; omega, by simp only [mRm]; omega⟩ ⟨Nat.zero_le _, Nat.zero_le _⟩ hf (fun r105 σ106 _ hf H locs hw => ?_)
        refine lv_aload_n hx hb dX1_product_31 rfl (lv_at hl 0 rfl) ?_
        refine lv_iload_n hx hb dX1_product_32 rfl (lv_at hl 1 rfl) ?_
        refine r_cvv (rest := []) [.int (mI x1)] X hw (fun ra σa h => hrec.2.2.2.2.2.2.1 x1 0 σ106 ra σa h) sh_19 rfl (by decide) rfl km_X1_part kv_X1_part lm_X1_91 dX1_product_33 hl.1 rfl rfl (Nat.le_of_ble_eq_true rfl) ⟨by simp only [mRm]; omega, by simp only [mRm]; omega⟩ ⟨Nat.zero_le _, Nat.zero_le _⟩ hf (fun r107 σ108 _ hf H locs hw => ?_)
        refine lv_aload_n hx hb dX1_product_36 rfl (lv_at hl 0 rfl) ?_
        refine r_getp X hw sh_19 fd_1_1 rfl lf_X1_15 dX1_product_37 hf (fun hg109 hf => ?_)
        refine lv_iload_n hx hb dX1_product_40 rfl (lv_at hl 2 rfl) ?_
        refine lv_iconst (v := mI 0) hx hb dX1_product_41 rfl ?_
        refine r_cvv (rest := []) [.int (mI x2), .int (mI 0)] X hw (fun ra σa h => c_X5_emit l D cy ad bs F (σ108 19 1).toNat x2 0 σ108 ra σa (mPlan_z hg109) h) (mPlan_z hg109).1 rfl (by decide) rfl km_X5_emit kv_X5_emit lm_X1_64 dX1_product_42 hl.1 rfl rfl (Nat.le_of_ble_eq_true rfl) ⟨by simp only [mRm]; omega, by simp only [mRm]; omega⟩ ⟨Nat.zero_le _, Nat.zero_le _⟩ hf (fun r110 σ111 _ hf H locs hw => ?_)
        refine lv_aload_n hx hb dX1_product_45 rfl (lv_at hl 0 rfl) ?_
        refine r_cvi (rest := []) [] X hw (fun ra σa h => c_X1_productSign l D cy ad bs F σ111 ra σa  h) sh_19 rfl (by decide) rfl km_X1_productSign kv_X1_productSign lm_X1_94 dX1_product_46 hl.1 rfl rfl (Nat.le_of_ble_eq_true rfl) ⟨by simp only [mRm]; omega, by simp only [mRm]; omega⟩ ⟨Nat.zero_le _, Nat.zero_le _⟩ hf (fun r112 σ113 _ hf H locs hw => ?_)
        refine lv_istore_n (lv' := [(2, .int (mI r112)), (0, .ref (ad 19)), (1, .int (mI x1)), (3, .int (mI x3))]) hx hb dX1_product_49 rfl hl (by decide) rfl (fun ls hl => ?_)
        refine lv_iinc (v := mI (x3 + 1)) (lv' := [(3, .int (mI (x3 + 1))), (2, .int (mI r112)), (0, .ref (ad 19)), (1, .int (mI x1))]) hx hb dX1_product_50 hl (k := 3) rfl (mI_add _ _) (by decide) rfl (fun ls hl => ?_)
        refine lv_goto (tgt := 12) hx hb dX1_product_53 (by decide) ?_
        exact hk12 x1 r112 (x3 + 1) σ113 _ _ _ hw (lv_sub hl [2, 3, 1, 0] rfl) hf
def g_X1_product (rc : Nat → Int → Int → mMem → mRs) (F : Nat) (x1 : Int) (σ : mMem) : mRs := mob (rc 6 x1 0 σ) (fun r1 σ2 => mob (g_X1_productSign F σ2) (fun r3 σ4 => g_X1_product_h12 rc F F x1 r3 0 σ4))
set_option maxRecDepth 100000 in
set_option maxHeartbeats 4000000 in
theorem c_X1_product (l : Launch) (D : va_G) (cy : Nat → ClassId) (ad : Nat → Nat) (bs : Nat) (F : Nat) {rc : Nat → Int → Int → mMem → mRs} {hh : Nat} (hrec : mRecC l D cy ad bs hh rc) (hhh : 12 ≤ hh) (x1 : Int) (σ : mMem) (r : Int) (σ' : mMem) (hf : g_X1_product rc F x1 σ = some (r, σ')) : mCv l D cy ad bs yX1_product cX1_product 4 none (hh + 1) [.ref (ad 19), .int (mI x1)] σ σ' := by
  refine mCv.of (lv := [(0, .ref (ad 19)), (1, .int (mI x1))]) km_X1_product.2.2.2.2.2 (Nat.le_of_ble_eq_true rfl) rfl (fun p e s m args below meth c H locs ls X hw hl => ?_)
  obtain ⟨⟨hx, hb, -, -, -⟩, -⟩ := id X
  unfold g_X1_product at hf
  refine lv_aload_n hx hb dX1_product_0 rfl (lv_at hl 0 rfl) ?_
  refine lv_iload_n hx hb dX1_product_1 rfl (lv_at hl 1 rfl) ?_
  refine r_cvv (rest := []) [.int (mI x1)] X hw (fun ra σa h => hrec.2.2.2.2.2.2.1 x1 0 σ ra σa h) sh_19 rfl (by decide) rfl km_X1_part kv_X1_part lm_X1_91 dX1_product_2 hl.1 rfl rfl (Nat.le_of_ble_eq_true rfl) ⟨by simp only [mRm]; omega, by simp only [mRm]; omega⟩ ⟨Nat.zero_le _, Nat.zero_le _⟩ hf (fun r1 σ2 _ hf H locs hw => ?_)
  refine lv_aload_n hx hb dX1_product_5 rfl (lv_at hl 0 rfl) ?_
  refine r_cvi (rest := []) [] X hw (fun ra σa h => c_X1_productSign l D cy ad bs F σ2 ra σa  h) sh_19 rfl (by decide) rfl km_X1_productSign kv_X1_productSign lm_X1_94 dX1_product_6 hl.1 rfl rfl (Nat.le_of_ble_eq_true rfl) ⟨by simp only [mRm]; omega, by simp only [mRm]; omega⟩ ⟨Nat.zero_le _, Nat.zero_le _⟩ hf (fun r3 σ4 _ hf H locs hw => ?_)
  refine lv_istore_n (lv' := [(2, .int (mI r3)), (0, .ref (ad 19)), (1, .int (mI x1))]) hx hb dX1_product_9 rfl hl (by decide) rfl (fun ls hl => ?_)
  refine lv_iconst (v := mI 0) hx hb dX1_product_10 rfl ?_
  refine lv_istore_n (lv' := [(3, .int (mI 0)), (2, .int (mI r3)), (0, .ref (ad 19)), (1, .int (mI x1))]) hx hb dX1_product_11 rfl hl (by decide) rfl (fun ls hl => ?_)
  exact w_X1_product_h12 hrec hhh X _ hw (lv_sub hl [2, 3, 1, 0] rfl) hf
def g_X1_part_b145 (rc : Nat → Int → Int → mMem → mRs) (F : Nat)  (σ : mMem) : mRs := some (0, σ)
set_option maxRecDepth 100000 in
set_option maxHeartbeats 4000000 in
theorem w_X1_part_b145 {p : Program} {l : Launch} {e : Env} {s : State} {m : MethodId} {args : Array Value} {below : List Frame} {meth : Method} {c : Code} {D : va_G} {cy : Nat → ClassId} {ad : Nat → Nat} {bs : Nat} {F : Nat}  {rc : Nat → Int → Int → mMem → mRs} {hh : Nat} (hrec : mRecC l D cy ad bs hh rc) (hhh : 12 ≤ hh) (X : mCx p m c cX1_part 2 s args RX1 meth D cy none)  {r : Int} {σ' : mMem}    {σ : mMem} {H : Heap} {locs : List Loc} {ls : Array Slot} (hw : mWd D cy ad bs true mN σ s.heap H locs) (hl : lv_has ls 2 [(0, .ref (ad 19))]) (hf : g_X1_part_b145 rc F  σ = some (r, σ')) : mGv p l e (hh + 1) s m args below meth c D cy ad bs σ' H locs (F0 m 145 ls []) := by
  obtain ⟨⟨hx, hb, -, -, -⟩, -⟩ := id X
  unfold g_X1_part_b145 at hf
  exact r_vret X hw dX1_part_145 hf
def g_X1_part (rc : Nat → Int → Int → mMem → mRs) (F : Nat) (x1 : Int) (σ : mMem) : mRs := if ¬ mw (σ 14 7) = mw 3 then (mob (g_X8_isMark F 40 σ) (fun r1 σ2 => if mw r1 = 0 then (mob (g_X8_isWord F 26 σ2) (fun r3 σ4 => if mw r3 = 0 then (mob (g_X8_isWord F 27 σ4) (fun r5 σ6 => if mw r5 = 0 then (mob (g_X8_isWord F 21 σ6) (fun r7 σ8 => if mw r7 = 0 then (mob (g_X1_known F σ8) (fun r9 σ10 => g_X1_part_b145 rc F σ10)) else (mob (rc 7 x1 15 σ8) (fun r11 σ12 => g_X1_part_b145 rc F σ12)))) else (mob (rc 7 x1 9 σ6) (fun r13 σ14 => g_X1_part_b145 rc F σ14)))) else (mob (rc 7 x1 8 σ4) (fun r15 σ16 => g_X1_part_b145 rc F σ16)))) else (mob (g_X1_passOpening F x1 σ2) (fun r17 σ18 => if mw r17 = 0 then (g_X1_part_b145 rc F σ18) else (mob (rc 4 (x1 + 1) 0 σ18) (fun r19 σ20 => mob (g_X8_takeMark F 41 σ20) (fun r21 σ22 => g_X1_part_b145 rc F σ22))))))) else (if σ 19 1 = 3 ∨ σ 19 1 = 8 then mob (g_X5_emit F (σ 19 1).toNat 0 (σ 14 9) σ) (fun r24 σ25 => mob (g_X8_next F σ25) (fun r26 σ27 => g_X1_part_b145 rc F σ27)) else none)
set_option maxRecDepth 100000 in
set_option maxHeartbeats 4000000 in
theorem c_X1_part (l : Launch) (D : va_G) (cy : Nat → ClassId) (ad : Nat → Nat) (bs : Nat) (F : Nat) {rc : Nat → Int → Int → mMem → mRs} {hh : Nat} (hrec : mRecC l D cy ad bs hh rc) (hhh : 12 ≤ hh) (x1 : Int) (σ : mMem) (r : Int) (σ' : mMem) (hf : g_X1_part rc F x1 σ = some (r, σ')) : mCv l D cy ad bs yX1_part cX1_part 2 none (hh + 1) [.ref (ad 19), .int (mI x1)] σ σ' := by
  refine mCv.of (lv := [(0, .ref (ad 19)), (1, .int (mI x1))]) km_X1_part.2.2.2.2.2 (Nat.le_of_ble_eq_true rfl) rfl (fun p e s m args below meth c H locs ls X hw hl => ?_)
  obtain ⟨⟨hx, hb, -, -, -⟩, -⟩ := id X
  unfold g_X1_part at hf
  refine lv_aload_n hx hb dX1_part_0 rfl (lv_at hl 0 rfl) ?_
  refine r_getr 14 X hw sh_19 fd_1_0 rfl rfl lf_X1_9 dX1_part_1 ?_
  refine r_geti X hw sh_14 fd_8_7 rfl lf_X1_98 dX1_part_4 ?_
  refine lv_iconst (v := mI 3) hx hb dX1_part_7 rfl ?_
  refine r_icmp_ne (tgt := 36) X dX1_part_8 (by decide) hf (fun hc hf => ?_) (fun hc hf => ?_)
  · refine lv_aload_n hx hb dX1_part_36 rfl (lv_at hl 0 rfl) ?_
    refine r_getr 14 X hw sh_19 fd_1_0 rfl rfl lf_X1_9 dX1_part_37 ?_
    refine lv_bipush (v := mI 40) hx hb dX1_part_40 (by decide) ?_
    refine r_cvi (rest := []) [.int (mI 40)] X hw (fun ra σa h => c_X8_isMark l D cy ad bs F 40 σ ra σa  h) sh_14 rfl (by decide) rfl km_X8_isMark kv_X8_isMark lm_X1_74 dX1_part_42 hl.1 rfl rfl (Nat.le_of_ble_eq_true rfl) ⟨by simp only [mRm]; omega, by simp only [mRm]; omega⟩ ⟨Nat.zero_le _, Nat.zero_le _⟩ hf (fun r1 σ2 _ hf H locs hw => ?_)
    refine r_if_eq (tgt := 75) X dX1_part_45 (by decide) hf (fun hc hf => ?_) (fun hc hf => ?_)
    · refine lv_aload_n hx hb dX1_part_75 rfl (lv_at hl 0 rfl) ?_
      refine r_getr 14 X hw sh_19 fd_1_0 rfl rfl lf_X1_9 dX1_part_76 ?_
      refine lv_bipush (v := mI 26) hx hb dX1_part_79 (by decide) ?_
      refine r_cvi (rest := []) [.int (mI 26)] X hw (fun ra σa h => c_X8_isWord l D cy ad bs F 26 σ2 ra σa  h) sh_14 rfl (by decide) rfl km_X8_isWord kv_X8_isWord lm_X1_58 dX1_part_81 hl.1 rfl rfl (Nat.le_of_ble_eq_true rfl) ⟨by simp only [mRm]; omega, by simp only [mRm]; omega⟩ ⟨Nat.zero_le _, Nat.zero_le _⟩ hf (fun r3 σ4 _ hf H locs hw => ?_)
      refine r_if_eq (tgt := 97) X dX1_part_84 (by decide) hf (fun hc hf => ?_) (fun hc hf => ?_)
      · refine lv_aload_n hx hb dX1_part_97 rfl (lv_at hl 0 rfl) ?_
        refine r_getr 14 X hw sh_19 fd_1_0 rfl rfl lf_X1_9 dX1_part_98 ?_
        refine lv_bipush (v := mI 27) hx hb dX1_part_101 (by decide) ?_
        refine r_cvi (rest := []) [.int (mI 27)] X hw (fun ra σa h => c_X8_isWord l D cy ad bs F 27 σ4 ra σa  h) sh_14 rfl (by decide) rfl km_X8_isWord kv_X8_isWord lm_X1_58 dX1_part_103 hl.1 rfl rfl (Nat.le_of_ble_eq_true rfl) ⟨by simp only [mRm]; omega, by simp only [mRm]; omega⟩ ⟨Nat.zero_le _, Nat.zero_le _⟩ hf (fun r5 σ6 _ hf H locs hw => ?_)
        refine r_if_eq (tgt := 119) X dX1_part_106 (by decide) hf (fun hc hf => ?_) (fun hc hf => ?_)
        · refine lv_aload_n hx hb dX1_part_119 rfl (lv_at hl 0 rfl) ?_
          refine r_getr 14 X hw sh_19 fd_1_0 rfl rfl lf_X1_9 dX1_part_120 ?_
          refine lv_bipush (v := mI 21) hx hb dX1_part_123 (by decide) ?_
          refine r_cvi (rest := []) [.int (mI 21)] X hw (fun ra σa h => c_X8_isWord l D cy ad bs F 21 σ6 ra σa  h) sh_14 rfl (by decide) rfl km_X8_isWord kv_X8_isWord lm_X1_58 dX1_part_125 hl.1 rfl rfl (Nat.le_of_ble_eq_true rfl) ⟨by simp only [mRm]; omega, by simp only [mRm]; omega⟩ ⟨Nat.zero_le _, Nat.zero_le _⟩ hf (fun r7 σ8 _ hf H locs hw => ?_)
          refine r_if_eq (tgt := 141) X dX1_part_128 (by decide) hf (fun hc hf => ?_) (fun hc hf => ?_)
          · refine lv_aload_n hx hb dX1_part_141 rfl (lv_at hl 0 rfl) ?_
            refine r_cvv (rest := []) [] X hw (fun ra σa h => c_X1_known l D cy ad bs F σ8 ra σa  h) sh_19 rfl (by decide) rfl km_X1_known kv_X1_known lm_X1_107 dX1_part_142 hl.1 rfl rfl (Nat.le_of_ble_eq_true rfl) ⟨by simp only [mRm]; omega, by simp only [mRm]; omega⟩ ⟨Nat.zero_le _, Nat.zero_le _⟩ hf (fun r9 σ10 _ hf H locs hw => ?_)
            exact w_X1_part_b145 hrec hhh X hw (lv_sub hl [0] rfl) hf
          · refine lv_aload_n hx hb dX1_part_131 rfl (lv_at hl 0 rfl) ?_
            refine lv_iload_n hx hb dX1_part_132 rfl (lv_at hl 1 rfl) ?_
            refine lv_bipush (v := mI 15) hx hb dX1_part_133 (by decide) ?_
            refine r_cvv (rest := []) [.int (mI x1), .int (mI 15)] X hw (fun ra σa h => hrec.2.2.2.2.2.2.2 x1 15 σ8 ra σa h) sh_19 rfl (by decide) rfl km_X1_choice kv_X1_choice lm_X1_104 dX1_part_135 hl.1 rfl rfl (Nat.le_of_ble_eq_true rfl) ⟨by simp only [mRm]; omega, by simp only [mRm]; omega⟩ ⟨Nat.zero_le _, Nat.zero_le _⟩ hf (fun r11 σ12 _ hf H locs hw => ?_)
            refine lv_goto (tgt := 145) hx hb dX1_part_138 (by decide) ?_
            exact w_X1_part_b145 hrec hhh X hw (lv_sub hl [0] rfl) hf
        · refine lv_aload_n hx hb dX1_part_109 rfl (lv_at hl 0 rfl) ?_
          refine lv_iload_n hx hb dX1_part_110 rfl (lv_at hl 1 rfl) ?_
          refine lv_bipush (v := mI 9) hx hb dX1_part_111 (by decide) ?_
          refine r_cvv (rest := []) [.int (mI x1), .int (mI 9)] X hw (fun ra σa h => hrec.2.2.2.2.2.2.2 x1 9 σ6 ra σa h) sh_19 rfl (by decide) rfl km_X1_choice kv_X1_choice lm_X1_104 dX1_part_113 hl.1 rfl rfl (Nat.le_of_ble_eq_true rfl) ⟨by simp only [mRm]; omega, by simp only [mRm]; omega⟩ ⟨Nat.zero_le _, Nat.zero_le _⟩ hf (fun r13 σ14 _ hf H locs hw => ?_)
          refine lv_goto (tgt := 145) hx hb dX1_part_116 (by decide) ?_
          exact w_X1_part_b145 hrec hhh X hw (lv_sub hl [0] rfl) hf
      · refine lv_aload_n hx hb dX1_part_87 rfl (lv_at hl 0 rfl) ?_
        refine lv_iload_n hx hb dX1_part_88 rfl (lv_at hl 1 rfl) ?_
        refine lv_bipush (v := mI 8) hx hb dX1_part_89 (by decide) ?_
        refine r_cvv (rest := []) [.int (mI x1), .int (mI 8)] X hw (fun ra σa h => hrec.2.2.2.2.2.2.2 x1 8 σ4 ra σa h) sh_19 rfl (by decide) rfl km_X1_choice kv_X1_choice lm_X1_104 dX1_part_91 hl.1 rfl rfl (Nat.le_of_ble_eq_true rfl) ⟨by simp only [mRm]; omega, by simp only [mRm]; omega⟩ ⟨Nat.zero_le _, Nat.zero_le _⟩ hf (fun r15 σ16 _ hf H locs hw => ?_)
        refine lv_goto (tgt := 145) hx hb dX1_part_94 (by decide) ?_
        exact w_X1_part_b145 hrec hhh X hw (lv_sub hl [0] rfl) hf
    · refine lv_aload_n hx hb dX1_part_48 rfl (lv_at hl 0 rfl) ?_
      refine lv_iload_n hx hb dX1_part_49 rfl (lv_at hl 1 rfl) ?_
      refine r_cvi (rest := []) [.int (mI x1)] X hw (fun ra σa h => c_X1_passOpening l D cy ad bs F x1 σ2 ra σa  h) sh_19 rfl (by decide) rfl km_X1_passOpening kv_X1_passOpening lm_X1_71 dX1_part_50 hl.1 rfl rfl (Nat.le_of_ble_eq_true rfl) ⟨by simp only [mRm]; omega, by simp only [mRm]; omega⟩ ⟨Nat.zero_le _, Nat.zero_le _⟩ hf (fun r17 σ18 _ hf H locs hw => ?_)
      refine r_if_eq (tgt := 145) X dX1_part_53 (by decide) hf (fun hc hf => ?_) (fun hc hf => ?_)
      · exact w_X1_part_b145 hrec hhh X hw (lv_sub hl [0] rfl) hf
      · refine lv_aload_n hx hb dX1_part_56 rfl (lv_at hl 0 rfl) ?_
        refine lv_iload_n hx hb dX1_part_57 rfl (lv_at hl 1 rfl) ?_
        refine lv_iconst (v := mI 1) hx hb dX1_part_58 rfl ?_
        refine r_iadd X dX1_part_59 ?_
        refine r_cvv (rest := []) [.int (mI (x1 + 1))] X hw (fun ra σa h => hrec.2.2.2.2.1 (x1 + 1) 0 σ18 ra σa h) sh_19 rfl (by decide) rfl km_X1_sum kv_X1_sum lm_X1_37 dX1_part_60 hl.1 rfl rfl (Nat.le_of_ble_eq_true rfl) ⟨by simp only [mRm]; omega, by simp only [mRm]; omega⟩ ⟨Nat.zero_le _, Nat.zero_le _⟩ hf (fun r19 σ20 _ hf H locs hw => ?_)
        refine lv_aload_n hx hb dX1_part_63 rfl (lv_at hl 0 rfl) ?_
        refine r_getr 14 X hw sh_19 fd_1_0 rfl rfl lf_X1_9 dX1_part_64 ?_
        refine lv_bipush (v := mI 41) hx hb dX1_part_67 (by decide) ?_
        refine r_cvv (rest := []) [.int (mI 41)] X hw (fun ra σa h => c_X8_takeMark l D cy ad bs F 41 σ20 ra σa  h) sh_14 rfl (by decide) rfl km_X8_takeMark kv_X8_takeMark lm_X1_78 dX1_part_69 hl.1 rfl rfl (Nat.le_of_ble_eq_true rfl) ⟨by simp only [mRm]; omega, by simp only [mRm]; omega⟩ ⟨Nat.zero_le _, Nat.zero_le _⟩ hf (fun r21 σ22 _ hf H locs hw => ?_)
        refine lv_goto (tgt := 145) hx hb dX1_part_72 (by decide) ?_
        exact w_X1_part_b145 hrec hhh X hw (lv_sub hl [0] rfl) hf
  · refine lv_aload_n hx hb dX1_part_11 rfl (lv_at hl 0 rfl) ?_
    refine r_getp X hw sh_19 fd_1_1 rfl lf_X1_15 dX1_part_12 hf (fun hg23 hf => ?_)
    refine lv_iconst (v := mI 0) hx hb dX1_part_15 rfl ?_
    refine lv_aload_n hx hb dX1_part_16 rfl (lv_at hl 0 rfl) ?_
    refine r_getr 14 X hw sh_19 fd_1_0 rfl rfl lf_X1_9 dX1_part_17 ?_
    refine r_geti X hw sh_14 fd_8_9 rfl lf_X1_101 dX1_part_20 ?_
    refine r_cvv (rest := []) [.int (mI 0), .int (mI (σ 14 9))] X hw (fun ra σa h => c_X5_emit l D cy ad bs F (σ 19 1).toNat 0 (σ 14 9) σ ra σa (mPlan_z hg23) h) (mPlan_z hg23).1 rfl (by decide) rfl km_X5_emit kv_X5_emit lm_X1_64 dX1_part_23 hl.1 rfl rfl (Nat.le_of_ble_eq_true rfl) ⟨by simp only [mRm]; omega, by simp only [mRm]; omega⟩ ⟨Nat.zero_le _, Nat.zero_le _⟩ hf (fun r24 σ25 _ hf H locs hw => ?_)
    refine lv_aload_n hx hb dX1_part_26 rfl (lv_at hl 0 rfl) ?_
    refine r_getr 14 X hw sh_19 fd_1_0 rfl rfl lf_X1_9 dX1_part_27 ?_
    refine r_cvv (rest := []) [] X hw (fun ra σa h => c_X8_next l D cy ad bs F σ25 ra σa  h) sh_14 rfl (by decide) rfl km_X8_next kv_X8_next lm_X1_23 dX1_part_30 hl.1 rfl rfl (Nat.le_of_ble_eq_true rfl) ⟨by simp only [mRm]; omega, by simp only [mRm]; omega⟩ ⟨Nat.zero_le _, Nat.zero_le _⟩ hf (fun r26 σ27 _ hf H locs hw => ?_)
    refine lv_goto (tgt := 145) hx hb dX1_part_33 (by decide) ?_
    exact w_X1_part_b145 hrec hhh X hw (lv_sub hl [0] rfl) hf
def g_X1_choice_b59 (rc : Nat → Int → Int → mMem → mRs) (F : Nat)  (x1 x2 : Int) (σ : mMem) : mRs := mob (rc 4 (x1 + 1) 0 σ) (fun r113 σ114 => mob (g_X8_takeMark F 44 σ114) (fun r115 σ116 => mob (rc 4 (x1 + 1) 0 σ116) (fun r117 σ118 => mob (g_X8_takeMark F 41 σ118) (fun r119 σ120 => if σ120 19 1 = 3 ∨ σ120 19 1 = 8 then mob (g_X5_emit F (σ120 19 1).toNat x2 0 σ120) (fun r122 σ123 => some (0, σ123)) else none))))
set_option maxRecDepth 100000 in
set_option maxHeartbeats 4000000 in
theorem w_X1_choice_b59 {p : Program} {l : Launch} {e : Env} {s : State} {m : MethodId} {args : Array Value} {below : List Frame} {meth : Method} {c : Code} {D : va_G} {cy : Nat → ClassId} {ad : Nat → Nat} {bs : Nat} {F : Nat}  {rc : Nat → Int → Int → mMem → mRs} {hh : Nat} (hrec : mRecC l D cy ad bs hh rc) (hhh : 12 ≤ hh) (X : mCx p m c cX1_choice 3 s args RX1 meth D cy none)  {r : Int} {σ' : mMem}   {x1 x2 : Int} {σ : mMem} {H : Heap} {locs : List Loc} {ls : Array Slot} (hw : mWd D cy ad bs true mN σ s.heap H locs) (hl : lv_has ls 3 [(0, .ref (ad 19)), (1, .int (mI x1)), (2, .int (mI x2))]) (hf : g_X1_choice_b59 rc F x1 x2 σ = some (r, σ')) : mGv p l e (hh + 1) s m args below meth c D cy ad bs σ' H locs (F0 m 59 ls []) := by
  obtain ⟨⟨hx, hb, -, -, -⟩, -⟩ := id X
  unfold g_X1_choice_b59 at hf
  refine lv_aload_n hx hb dX1_choice_59 rfl (lv_at hl 0 rfl) ?_
  refine lv_iload_n hx hb dX1_choice_60 rfl (lv_at hl 1 rfl) ?_
  refine lv_iconst (v := mI 1) hx hb dX1_choice_61 rfl ?_
  refine r_iadd X dX1_choice_62 ?_
  refine r_cvv (rest := []) [.int (mI (x1 + 1))] X hw (fun ra σa h => hrec.2.2.2.2.1 (x1 + 1) 0 σ ra σa h) sh_19 rfl (by decide) rfl km_X1_sum kv_X1_sum lm_X1_37 dX1_choice_63 hl.1 rfl rfl (Nat.le_of_ble_eq_true rfl) ⟨by simp only [mRm]; omega, by simp only [mRm]; omega⟩ ⟨Nat.zero_le _, Nat.zero_le _⟩ hf (fun r113 σ114 _ hf H locs hw => ?_)
  refine lv_aload_n hx hb dX1_choice_66 rfl (lv_at hl 0 rfl) ?_
  refine r_getr 14 X hw sh_19 fd_1_0 rfl rfl lf_X1_9 dX1_choice_67 ?_
  refine lv_bipush (v := mI 44) hx hb dX1_choice_70 (by decide) ?_
  refine r_cvv (rest := []) [.int (mI 44)] X hw (fun ra σa h => c_X8_takeMark l D cy ad bs F 44 σ114 ra σa  h) sh_14 rfl (by decide) rfl km_X8_takeMark kv_X8_takeMark lm_X1_78 dX1_choice_72 hl.1 rfl rfl (Nat.le_of_ble_eq_true rfl) ⟨by simp only [mRm]; omega, by simp only [mRm]; omega⟩ ⟨Nat.zero_le _, Nat.zero_le _⟩ hf (fun r115 σ116 _ hf H locs hw => ?_)
  refine lv_aload_n hx hb dX1_choice_75 rfl (lv_at hl 0 rfl) ?_
  refine lv_iload_n hx hb dX1_choice_76 rfl (lv_at hl 1 rfl) ?_
  refine lv_iconst (v := mI 1) hx hb dX1_choice_77 rfl ?_
  refine r_iadd X dX1_choice_78 ?_
  refine r_cvv (rest := []) [.int (mI (x1 + 1))] X hw (fun ra σa h => hrec.2.2.2.2.1 (x1 + 1) 0 σ116 ra σa h) sh_19 rfl (by decide) rfl km_X1_sum kv_X1_sum lm_X1_37 dX1_choice_79 hl.1 rfl rfl (Nat.le_of_ble_eq_true rfl) ⟨by simp only [mRm]; omega, by simp only [mRm]; omega⟩ ⟨Nat.zero_le _, Nat.zero_le _⟩ hf (fun r117 σ118 _ hf H locs hw => ?_)
  refine lv_aload_n hx hb dX1_choice_82 rfl (lv_at hl 0 rfl) ?_
  refine r_getr 14 X hw sh_19 fd_1_0 rfl rfl lf_X1_9 dX1_choice_83 ?_
  refine lv_bipush (v := mI 41) hx hb dX1_choice_86 (by decide) ?_
  refine r_cvv (rest := []) [.int (mI 41)] X hw (fun ra σa h => c_X8_takeMark l D cy ad bs F 41 σ118 ra σa  h) sh_14 rfl (by decide) rfl km_X8_takeMark kv_X8_takeMark lm_X1_78 dX1_choice_88 hl.1 rfl rfl (Nat.le_of_ble_eq_true rfl) ⟨by simp only [mRm]; omega, by simp only [mRm]; omega⟩ ⟨Nat.zero_le _, Nat.zero_le _⟩ hf (fun r119 σ120 _ hf H locs hw => ?_)
  refine lv_aload_n hx hb dX1_choice_91 rfl (lv_at hl 0 rfl) ?_
  refine r_getp X hw sh_19 fd_1_1 rfl lf_X1_15 dX1_choice_92 hf (fun hg121 hf => ?_)
  refine lv_iload_n hx hb dX1_choice_95 rfl (lv_at hl 2 rfl) ?_
  refine lv_iconst (v := mI 0) hx hb dX1_choice_96 rfl ?_
  refine r_cvv (rest := []) [.int (mI x2), .int (mI 0)] X hw (fun ra σa h => c_X5_emit l D cy ad bs F (σ120 19 1).toNat x2 0 σ120 ra σa (mPlan_z hg121) h) (mPlan_z hg121).1 rfl (by decide) rfl km_X5_emit kv_X5_emit lm_X1_64 dX1_choice_97 hl.1 rfl rfl (Nat.le_of_ble_eq_true rfl) ⟨by simp only [mRm]; omega, by simp only [mRm]; omega⟩ ⟨Nat.zero_le _, Nat.zero_le _⟩ hf (fun r122 σ123 _ hf H locs hw => ?_)
  exact r_vret X hw dX1_choice_100 hf
def g_X1_choice (rc : Nat → Int → Int → mMem → mRs) (F : Nat) (x1 x2 : Int) (σ : mMem) : mRs := mob (g_X8_next F σ) (fun r1 σ2 => mob (g_X8_isMark F 40 σ2) (fun r3 σ4 => if ¬ mw r3 = 0 then (mob (g_X1_passOpening F x1 σ4) (fun r5 σ6 => if ¬ mw r5 = 0 then (if ¬ mw x2 = mw 15 then (g_X1_choice_b59 rc F x1 x2 σ6) else (mob (rc 0 (x1 + 1) 0 σ6) (fun r7 σ8 => mob (g_X8_takeMark F 44 σ8) (fun r9 σ10 => g_X1_choice_b59 rc F x1 x2 σ10)))) else (some (0, σ6)))) else (mob (g_X8_refuseHere F 1 σ4) (fun r11 σ12 => some (0, σ12)))))
set_option maxRecDepth 100000 in
set_option maxHeartbeats 4000000 in
theorem c_X1_choice (l : Launch) (D : va_G) (cy : Nat → ClassId) (ad : Nat → Nat) (bs : Nat) (F : Nat) {rc : Nat → Int → Int → mMem → mRs} {hh : Nat} (hrec : mRecC l D cy ad bs hh rc) (hhh : 12 ≤ hh) (x1 x2 : Int) (σ : mMem) (r : Int) (σ' : mMem) (hf : g_X1_choice rc F x1 x2 σ = some (r, σ')) : mCv l D cy ad bs yX1_choice cX1_choice 3 none (hh + 1) [.ref (ad 19), .int (mI x1), .int (mI x2)] σ σ' := by
  refine mCv.of (lv := [(0, .ref (ad 19)), (1, .int (mI x1)), (2, .int (mI x2))]) km_X1_choice.2.2.2.2.2 (Nat.le_of_ble_eq_true rfl) rfl (fun p e s m args below meth c H locs ls X hw hl => ?_)
  obtain ⟨⟨hx, hb, -, -, -⟩, -⟩ := id X
  unfold g_X1_choice at hf
  refine lv_aload_n hx hb dX1_choice_0 rfl (lv_at hl 0 rfl) ?_
  refine r_getr 14 X hw sh_19 fd_1_0 rfl rfl lf_X1_9 dX1_choice_1 ?_
  refine r_cvv (rest := []) [] X hw (fun ra σa h => c_X8_next l D cy ad bs F σ ra σa  h) sh_14 rfl (by decide) rfl km_X8_next kv_X8_next lm_X1_23 dX1_choice_4 hl.1 rfl rfl (Nat.le_of_ble_eq_true rfl) ⟨by simp only [mRm]; omega, by simp only [mRm]; omega⟩ ⟨Nat.zero_le _, Nat.zero_le _⟩ hf (fun r1 σ2 _ hf H locs hw => ?_)
  refine lv_aload_n hx hb dX1_choice_7 rfl (lv_at hl 0 rfl) ?_
  refine r_getr 14 X hw sh_19 fd_1_0 rfl rfl lf_X1_9 dX1_choice_8 ?_
  refine lv_bipush (v := mI 40) hx hb dX1_choice_11 (by decide) ?_
  refine r_cvi (rest := []) [.int (mI 40)] X hw (fun ra σa h => c_X8_isMark l D cy ad bs F 40 σ2 ra σa  h) sh_14 rfl (by decide) rfl km_X8_isMark kv_X8_isMark lm_X1_74 dX1_choice_13 hl.1 rfl rfl (Nat.le_of_ble_eq_true rfl) ⟨by simp only [mRm]; omega, by simp only [mRm]; omega⟩ ⟨Nat.zero_le _, Nat.zero_le _⟩ hf (fun r3 σ4 _ hf H locs hw => ?_)
  refine r_if_ne (tgt := 28) X dX1_choice_16 (by decide) hf (fun hc hf => ?_) (fun hc hf => ?_)
  · refine lv_aload_n hx hb dX1_choice_28 rfl (lv_at hl 0 rfl) ?_
    refine lv_iload_n hx hb dX1_choice_29 rfl (lv_at hl 1 rfl) ?_
    refine r_cvi (rest := []) [.int (mI x1)] X hw (fun ra σa h => c_X1_passOpening l D cy ad bs F x1 σ4 ra σa  h) sh_19 rfl (by decide) rfl km_X1_passOpening kv_X1_passOpening lm_X1_71 dX1_choice_30 hl.1 rfl rfl (Nat.le_of_ble_eq_true rfl) ⟨by simp only [mRm]; omega, by simp only [mRm]; omega⟩ ⟨Nat.zero_le _, Nat.zero_le _⟩ hf (fun r5 σ6 _ hf H locs hw => ?_)
    refine r_if_ne (tgt := 37) X dX1_choice_33 (by decide) hf (fun hc hf => ?_) (fun hc hf => ?_)
    · refine lv_iload_n hx hb dX1_choice_37 rfl (lv_at hl 2 rfl) ?_
      refine lv_bipush (v := mI 15) hx hb dX1_choice_38 (by decide) ?_
      refine r_icmp_ne (tgt := 59) X dX1_choice_40 (by decide) hf (fun hc hf => ?_) (fun hc hf => ?_)
      · exact w_X1_choice_b59 hrec hhh X hw (lv_sub hl [0, 1, 2] rfl) hf
      · refine lv_aload_n hx hb dX1_choice_43 rfl (lv_at hl 0 rfl) ?_
        refine lv_iload_n hx hb dX1_choice_44 rfl (lv_at hl 1 rfl) ?_
        refine lv_iconst (v := mI 1) hx hb dX1_choice_45 rfl ?_
        refine r_iadd X dX1_choice_46 ?_
        refine r_cvv (rest := []) [.int (mI (x1 + 1))] X hw (fun ra σa h => hrec.1 (x1 + 1) 0 σ6 ra σa h) sh_19 rfl (by decide) rfl km_X1_test kv_X1_test lm_X1_47 dX1_choice_47 hl.1 rfl rfl (Nat.le_of_ble_eq_true rfl) ⟨by simp only [mRm]; omega, by simp only [mRm]; omega⟩ ⟨Nat.zero_le _, Nat.zero_le _⟩ hf (fun r7 σ8 _ hf H locs hw => ?_)
        refine lv_aload_n hx hb dX1_choice_50 rfl (lv_at hl 0 rfl) ?_
        refine r_getr 14 X hw sh_19 fd_1_0 rfl rfl lf_X1_9 dX1_choice_51 ?_
        refine lv_bipush (v := mI 44) hx hb dX1_choice_54 (by decide) ?_
        refine r_cvv (rest := []) [.int (mI 44)] X hw (fun ra σa h => c_X8_takeMark l D cy ad bs F 44 σ8 ra σa  h) sh_14 rfl (by decide) rfl km_X8_takeMark kv_X8_takeMark lm_X1_78 dX1_choice_56 hl.1 rfl rfl (Nat.le_of_ble_eq_true rfl) ⟨by simp only [mRm]; omega, by simp only [mRm]; omega⟩ ⟨Nat.zero_le _, Nat.zero_le _⟩ hf (fun r9 σ10 _ hf H locs hw => ?_)
        exact w_X1_choice_b59 hrec hhh X hw (lv_sub hl [0, 1, 2] rfl) hf
    · exact r_vret X hw dX1_choice_36 hf
  · refine lv_aload_n hx hb dX1_choice_19 rfl (lv_at hl 0 rfl) ?_
    refine r_getr 14 X hw sh_19 fd_1_0 rfl rfl lf_X1_9 dX1_choice_20 ?_
    refine lv_iconst (v := mI 1) hx hb dX1_choice_23 rfl ?_
    refine r_cvv (rest := []) [.int (mI 1)] X hw (fun ra σa h => c_X8_refuseHere l D cy ad bs F 1 σ4 ra σa  h) sh_14 rfl (by decide) rfl km_X8_refuseHere kv_X8_refuseHere lm_X1_85 dX1_choice_24 hl.1 rfl rfl (Nat.le_of_ble_eq_true rfl) ⟨by simp only [mRm]; omega, by simp only [mRm]; omega⟩ ⟨Nat.zero_le _, Nat.zero_le _⟩ hf (fun r11 σ12 _ hf H locs hw => ?_)
    exact r_vret X hw dX1_choice_27 hf
def g_X1_rec (F : Nat) : Nat → Nat → Int → Int → mMem → mRs
  | 0, _, _, _, _ => none
  | d + 1, t, a, b, σ => if t = 0 then g_X1_test (g_X1_rec F d) F a σ else if t = 1 then g_X1_both (g_X1_rec F d) F a σ else if t = 2 then g_X1_fact (g_X1_rec F d) F a σ else if t = 3 then g_X1_comparison (g_X1_rec F d) F a σ else if t = 4 then g_X1_sum (g_X1_rec F d) F a σ else if t = 5 then g_X1_product (g_X1_rec F d) F a σ else if t = 6 then g_X1_part (g_X1_rec F d) F a σ else if t = 7 then g_X1_choice (g_X1_rec F d) F a b σ else none
theorem c_X1_rec (l : Launch) (D : va_G) (cy : Nat → ClassId) (ad : Nat → Nat) (bs F : Nat) : ∀ d : Nat, mRecC l D cy ad bs (12 + d) (g_X1_rec F d)
  | 0 => ⟨(fun _ _ _ _ _ h => by cases h), (fun _ _ _ _ _ h => by cases h), (fun _ _ _ _ _ h => by cases h), (fun _ _ _ _ _ h => by cases h), (fun _ _ _ _ _ h => by cases h), (fun _ _ _ _ _ h => by cases h), (fun _ _ _ _ _ h => by cases h), (fun _ _ _ _ _ h => by cases h)⟩
  | d + 1 => ⟨fun a b σ r σ1 h => c_X1_test l D cy ad bs F (c_X1_rec l D cy ad bs F d) (by omega) a σ r σ1 h,
    fun a b σ r σ1 h => c_X1_both l D cy ad bs F (c_X1_rec l D cy ad bs F d) (by omega) a σ r σ1 h,
    fun a b σ r σ1 h => c_X1_fact l D cy ad bs F (c_X1_rec l D cy ad bs F d) (by omega) a σ r σ1 h,
    fun a b σ r σ1 h => c_X1_comparison l D cy ad bs F (c_X1_rec l D cy ad bs F d) (by omega) a σ r σ1 h,
    fun a b σ r σ1 h => c_X1_sum l D cy ad bs F (c_X1_rec l D cy ad bs F d) (by omega) a σ r σ1 h,
    fun a b σ r σ1 h => c_X1_product l D cy ad bs F (c_X1_rec l D cy ad bs F d) (by omega) a σ r σ1 h,
    fun a b σ r σ1 h => c_X1_part l D cy ad bs F (c_X1_rec l D cy ad bs F d) (by omega) a σ r σ1 h,
    fun a b σ r σ1 h => c_X1_choice l D cy ad bs F (c_X1_rec l D cy ad bs F d) (by omega) a b σ r σ1 h⟩
