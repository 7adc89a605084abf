/-! THE LAW: from its entry (written by genloop.py) -/
theorem tb_at {w : Cond} (i : Nat) (h : tables_1[i]? = some w) : w ∈ lw_tbl := List.mem_append_right _ (List.mem_of_getElem? h)
theorem ao_spec {args : Array Value} {s : State} (h : (Cond.arrayOver (.array .int)).before args s = true) : ∃ (comp c : ClassId) (k : Class), s.vm.findClass "[I" = some comp ∧ s.vm.classes[c]? = some k ∧ k.kind = .array comp (.array .int) ∧ s.vm.findClass "[[I" = some c := by
  simp only [Cond.before, Cond.holds, Cond.value, beq_iff_eq] at h
  cases hc : s.vm.findClass (FieldType.array FieldType.int).toString with
  | none => simp [hc] at h
  | some comp =>
    simp only [hc, Option.bind_some, Option.bind_eq_some_iff, Option.map_eq_some_iff] at h
    obtain ⟨c, hi, k, hk, hb⟩ := h
    obtain ⟨hlt, hp, -⟩ := Array.findIdx?_eq_some_iff_getElem.mp hi
    have hkk : s.vm.classes[c] = k := (Array.getElem?_eq_some_iff.mp hk).2
    rw [hkk] at hp
    cases hkind : k.kind with
    | array component ty =>
      rw [hkind] at hb hp
      simp at hb hp
      exact ⟨comp, c, k, hc, hk, by rw [hkind, hp, hb.1], hb.2⟩
    | _ => rw [hkind] at hb; simp at hb
set_option maxRecDepth 100000 in
theorem tx_flat : ∀ j, j < 132 → Cond.eq (.elem (.field (.string RX8 30) RJ0 "value" "[B") (.int (Int32.ofNat j))) (.int (mTx.getD j 0)) ∈ flatC (Jvm.Cond.and given_1 narrow_1) := by decide +kernel
set_option maxRecDepth 100000 in
theorem tx_flat2 : Cond.exactly (.string RX8 30) RJ0 ∈ flatC (Jvm.Cond.and given_1 narrow_1) ∧ Cond.eq (.field (.string RX8 30) RJ0 "coder" "B") (.int 0) ∈ flatC (Jvm.Cond.and given_1 narrow_1) ∧ Cond.arrayOf (.field (.string RX8 30) RJ0 "value" "[B") .byte ∈ flatC (Jvm.Cond.and given_1 narrow_1) ∧ Cond.eq (.length (.field (.string RX8 30) RJ0 "value" "[B")) (.int (Int32.ofNat 132)) ∈ flatC (Jvm.Cond.and given_1 narrow_1) ∧ Cond.eq (.static RJ0 "COMPACT_STRINGS" "Z") (.int 1) ∈ flatC (Jvm.Cond.and given_1 narrow_1) ∧ Cond.isRef (.static RJ3 "SIOOBE_FORMATTER" "Ljava/util/function/BiFunction;") ∈ flatC (Jvm.Cond.and given_1 narrow_1) := by decide +kernel
/-- the text, where it is told how texts are kept -/
theorem st_text {b : Nat} {s : State} (hts : ∀ w ∈ lw_tbl, w.before #[Value.ref b] s = true) (hgv : (Jvm.Cond.and given_1 narrow_1).before #[Value.ref b] s = true) : ∃ (qs qv : Nat) (qf : Option Nat), vk_R RX8 30 mTxt qs s ∧ mSx s.heap.size qs qv qf s s.heap := by
  have hf := flat_of_before _ hgv
  have hA : ∀ a : Nat, a < s.heap.size → ¬ mA s.heap.size a := fun a h q => absurd h (Nat.not_lt.mpr q)
  obtain ⟨f1, f2, f3, f4, f5, f6⟩ := tx_flat2
  have h132 : ∀ i : Nat, i < 1 → ([132] : List Nat).getD i 0 < 2 ^ 31 := by
    intro i hi
    obtain rfl : i = 0 := by omega
    decide
  obtain ⟨adK, adV, hS, hev⟩ := vk_Sof (args := #[Value.ref b]) (s := s) (N := 1) (tm := fun _ => .string RX8 30) (len := [132]) (byt := [mTx]) (A := mA s.heap.size) h132 (fun _ _ => hf _ f1) (fun _ _ => hf _ f2) (fun _ _ => hf _ f3) (fun i hi => by
    obtain rfl : i = 0 := by omega
    exact hf _ f4) (fun i hi j hj => by
    obtain rfl : i = 0 := by omega
    exact hf _ (tx_flat j hj)) (fun i j hi hj h => absurd (by omega) h) hA
  obtain ⟨g1, g2, g3, g4⟩ := hS.1 0 (by decide)
  have z1 := va_Zof (hts _ (tb_at (w := .laysStatic RJ0 "COMPACT_STRINGS" "Z") 157 (by decide +kernel))) (hts _ (lw_g_tbl ii_J0)) (va_eqi (hf _ f5)) hA
  have z2 := va_Zqof (hts _ (tb_at (w := .laysStatic RJ3 "SIOOBE_FORMATTER" "Ljava/util/function/BiFunction;") 173 (by decide +kernel))) (hts _ (lw_g_tbl ii_J3)) (hf _ f6) hA
  obtain ⟨qf, z3⟩ : ∃ qf : Option Nat, va_Z RJ3 "SIOOBE_FORMATTER" "Ljava/util/function/BiFunction;" (va_rf qf) (mA s.heap.size) s s.heap := by
    rcases z2 with h | ⟨t, h⟩
    · exact ⟨none, h⟩
    · exact ⟨some t, h⟩
  exact ⟨adK 0, adV 0, qf, vk_R.of (hts _ (tb_at (w := .stringRef RX8 30 mTxt) 147 (by decide +kernel))) (hev 0 (by decide)), z1, z3, g1, g2, g3, g4⟩
/-- the kinds of all that is made -/
theorem st_kinds {b : Nat} {s : State} (hts : ∀ w ∈ lw_tbl, w.before #[Value.ref b] s = true) : ∃ (D : va_G) (cy : Nat → ClassId), va_K D vwCl (mtys cy) s ∧ mKd cy s := by
  have kn : ∀ q ∈ vwCl, ∃ x : ClassId × (Nat → Nat), u_Kn s q.1 q.2.1 q.2.2 x.1 x.2 := by
    obtain ⟨c0, i0, h0⟩ := u_known (C := RX0) (T := TX0) (N := 4) (n := 4) hts (fun w hw => lw_g_tbl (in_X0 w hw)) (hts _ (lw_g_tbl kj_X0))
    obtain ⟨c1, i1, h1⟩ := u_known (C := RX1) (T := TX1) (N := 3) (n := 3) hts (fun w hw => lw_g_tbl (in_X1 w hw)) (hts _ (lw_g_tbl kj_X1))
    obtain ⟨c2, i2, h2⟩ := u_known (C := RX2) (T := TX2) (N := 2) (n := 2) hts (fun w hw => lw_g_tbl (in_X2 w hw)) (hts _ (lw_g_tbl kj_X2))
    obtain ⟨c3, i3, h3⟩ := u_known (C := RX3) (T := TX3) (N := 5) (n := 5) hts (fun w hw => lw_g_tbl (in_X3 w hw)) (hts _ (lw_g_tbl kj_X3))
    obtain ⟨c4, i4, h4⟩ := u_known (C := RX4) (T := TX4) (N := 3) (n := 3) hts (fun w hw => lw_g_tbl (in_X4 w hw)) (hts _ (lw_g_tbl kj_X4))
    obtain ⟨c5, i5, h5⟩ := u_known (C := RX5) (T := TX5) (N := 15) (n := 15) hts (fun w hw => lw_g_tbl (in_X5 w hw)) (hts _ (lw_g_tbl kj_X5))
    obtain ⟨c6, i6, h6⟩ := u_known (C := RX6) (T := TX6) (N := 3) (n := 3) hts (fun w hw => lw_g_tbl (in_X6 w hw)) (hts _ (lw_g_tbl kj_X6))
    obtain ⟨c7, i7, h7⟩ := u_known (C := RX7) (T := TX7) (N := 2) (n := 2) hts (fun w hw => lw_g_tbl (in_X7 w hw)) (hts _ (lw_g_tbl kj_X7))
    obtain ⟨c8, i8, h8⟩ := u_known (C := RX8) (T := TX8) (N := 12) (n := 12) hts (fun w hw => lw_g_tbl (in_X8 w hw)) (hts _ (lw_g_tbl kj_X8))
    obtain ⟨c9, i9, h9⟩ := u_known (C := RX9) (T := TX9) (N := 4) (n := 4) hts (fun w hw => lw_g_tbl (in_X9 w hw)) (hts _ (lw_g_tbl kj_X9))
    obtain ⟨c10, i10, h10⟩ := u_known (C := RX10) (T := TX10) (N := 8) (n := 8) hts (fun w hw => lw_g_tbl (in_X10 w hw)) (hts _ (lw_g_tbl kj_X10))
    obtain ⟨c11, i11, h11⟩ := u_known (C := RX11) (T := TX11) (N := 13) (n := 13) hts (fun w hw => lw_g_tbl (in_X11 w hw)) (hts _ (lw_g_tbl kj_X11))
    obtain ⟨c12, i12, h12⟩ := u_known (C := RX12) (T := TX12) (N := 72) (n := 72) hts (fun w hw => lw_g_tbl (in_X12 w hw)) (hts _ (lw_g_tbl kj_X12))
    exact List.forall_mem_cons.mpr ⟨⟨(c0, i0), h0⟩, List.forall_mem_cons.mpr ⟨⟨(c1, i1), h1⟩, List.forall_mem_cons.mpr ⟨⟨(c2, i2), h2⟩, List.forall_mem_cons.mpr ⟨⟨(c3, i3), h3⟩, List.forall_mem_cons.mpr ⟨⟨(c4, i4), h4⟩, List.forall_mem_cons.mpr ⟨⟨(c5, i5), h5⟩, List.forall_mem_cons.mpr ⟨⟨(c6, i6), h6⟩, List.forall_mem_cons.mpr ⟨⟨(c7, i7), h7⟩, List.forall_mem_cons.mpr ⟨⟨(c8, i8), h8⟩, List.forall_mem_cons.mpr ⟨⟨(c9, i9), h9⟩, List.forall_mem_cons.mpr ⟨⟨(c10, i10), h10⟩, List.forall_mem_cons.mpr ⟨⟨(c11, i11), h11⟩, List.forall_mem_cons.mpr ⟨⟨(c12, i12), h12⟩, fun _ h => absurd h List.not_mem_nil⟩⟩⟩⟩⟩⟩⟩⟩⟩⟩⟩⟩⟩
  obtain ⟨x0, -⟩ := kn (RX0, TX0, 4) List.mem_cons_self
  have kf : ∀ k : Nat, ∃ x : ClassId × (Nat → Nat), ∀ q : vw_C, vwCl[k]? = some q → u_Kn s q.1 q.2.1 q.2.2 x.1 x.2 := by
    intro k
    cases hq : vwCl[k]? with
    | none => exact ⟨x0, fun q h => by cases h⟩
    | some q0 =>
      obtain ⟨x, hx⟩ := kn q0 (List.mem_of_getElem? hq)
      exact ⟨x, fun q h => by cases h; exact hx⟩
  obtain ⟨f, hf⟩ := Classical.axiomOfChoice kf
  obtain ⟨cI, kI, ccI, i1, i2, i3⟩ := Cond.arrayClass_spec (hts _ (lw_g_tbl ka_int))
  obtain ⟨cL, kL, ccL, l1, l2, l3⟩ := Cond.arrayClass_spec (hts _ (lw_g_tbl ka_long))
  obtain ⟨cZ, kZ, ccZ, z1, z2, z3⟩ := Cond.arrayClass_spec (hts _ (lw_g_tbl ka_boolean))
  obtain ⟨cI2, cA, kA, a0, a1, a2, a3⟩ := ao_spec (hts _ (tb_at (w := .arrayOver (.array .int)) 358 (by decide +kernel)))
  cases (show s.vm.findClass "[I" = some cI from i1).symm.trans a0
  have ar : ∀ {cc k0 cm} {ty : FieldType}, s.vm.classes[cc]? = some k0 → k0.kind = .array cm ty → ArrOfT s cc ty := fun h1 h2 n z => ⟨fun k h => (by cases h), _, h1, _, h2⟩
  refine ⟨(fun k => (f k).1, fun k => (f k).2), fun k => if k = 0 then cI else if k = 1 then cL else if k = 2 then cZ else cA, ⟨fun k q hq => hf k q hq, fun k q hq => ?_⟩, ⟨kI, ccI, i2, i3⟩, kA, a1, a2⟩
  match k, hq with
  | 0, hq => cases hq; exact ⟨ar i2 i3, i1⟩
  | 1, hq => cases hq; exact ⟨ar l2 l3, l1⟩
  | 2, hq => cases hq; exact ⟨ar z2 z3, z1⟩
  | 3, hq => cases hq; exact ⟨ar a1 a2, a3⟩
  | k + 4, hq => simp [mtys] at hq
set_option maxRecDepth 100000 in
/-- THE LAW, from its entry -/
theorem whole_start {p : Program} {e : Env} {s : State} {m : MethodId} {below : List Frame} {meth : Method} {c : Code} (l : Launch) {b L : Nat} {xs : Nat → Int32} (hL : L ≤ 3072) (C0 : lw_At p s m meth c b L xs) : W p l e room_1 s m #[Value.ref b] below meth c s.heap [] 0 0 (lw_Z below #[Value.ref b] s) (entryFrame m ([Value.ref b] : List Value).toArray 4) := by
  obtain ⟨hx, hb, hr, hml, hown, hts, hX, hbl, hlocks, hgv⟩ := id C0
  obtain ⟨D, cy, hK, hkd⟩ := st_kinds hts
  obtain ⟨qs, qv, qf, hvk, hsx⟩ := st_text hts hgv
  have hE : mEx cy s.heap.size qs qv qf s s.heap := ⟨va_Nw.of rfl (hts _ (tb_at (w := .methodLinkNest RX11 9 yX7_init RX11) 31 (by decide +kernel))), va_Nw.of rfl (hts _ (tb_at (w := .methodLinkNest RX10 23 yX2_init RX11) 278 (by decide +kernel))), hvk, hkd, hsx⟩
  have B : mCb p m c code 4 s #[Value.ref b] RL meth D cy ret s.heap.size qs qv qf := ⟨⟨⟨hx, hb, hml, hown, fun w hw => hts w (lw_g_tbl hw)⟩, hK, hlocks, hr⟩, hE⟩
  have hw : mWb D cy s.heap.size 0 (fun _ _ => 0) s.heap s.heap [] := ⟨⟨fun k q h => by simp [mWs] at h, ⟨fun i j x y h => by simp [mWs] at h, fun k q h => by simp [mWs] at h⟩, va_S.rf, Nat.le_refl _⟩, rfl⟩
  have hl := lv_entry ([.ref b]) (n := 4) (Nat.le_of_ble_eq_true rfl)
  rw [lg_entry_eq]
  generalize (lg_sl ([.ref b]) ++ List.replicate (4 - (lg_sl ([.ref b])).length) Slot.unset).toArray = ls at hl ⊢
  have hl : lv_has ls 4 [(0, .ref b)] := hl
  refine rb_new (n := 0) B hw sh_0 (by decide) rfl in_X11 tyX11_ok (hd_X11 _ _) kl_L_7 kj_X11 ii_X11 (Nat.le_of_ble_eq_true rfl) (Nat.le_of_ble_eq_true rfl) dL_law_0 (fun H hw => ?_)
  refine W.widen (k := 1) (n := 13) (Nat.le_of_ble_eq_true rfl) (Nat.le_of_ble_eq_true rfl) ?_
  refine lv_dup hx hb dL_law_3 rfl ?_
  refine rb_ci (o := 0) (rest := [.ref (mAd s.heap.size 0)]) [] B hw (ci_0 l D cy s.heap.size qs qv qf _) km_X11_init kn_X11_init rfl lm_L_9 dL_law_4 hl.1 rfl rfl (Nat.le_of_ble_eq_true rfl) ⟨Nat.le_of_ble_eq_true rfl, Nat.le_of_ble_eq_true rfl⟩ ⟨Nat.le_of_ble_eq_true rfl, Nat.le_of_ble_eq_true rfl⟩ (fun H locs hw => ?_)
  refine W.widen (k := 100) (n := 20000) (Nat.le_of_ble_eq_true rfl) (Nat.le_of_ble_eq_true rfl) ?_
  refine lv_astore_n (lv' := [(1, .ref (mAd s.heap.size 0)), (0, .ref b)]) hx hb dL_law_7 rfl hl (by decide) rfl (fun ls hl => ?_)
  refine rb_new (n := 86) B hw sh_86 (by decide) rfl in_X12 tyX12_ok (hd_X12 _ _) kl_L_10 kj_X12 ii_X12 (Nat.le_of_ble_eq_true rfl) (Nat.le_of_ble_eq_true rfl) dL_law_8 (fun H hw => ?_)
  refine W.widen (k := 101) (n := 20072) (Nat.le_of_ble_eq_true rfl) (Nat.le_of_ble_eq_true rfl) ?_
  refine lv_dup hx hb dL_law_11 rfl ?_
  refine rb_ci (o := 86) (rest := [.ref (mAd s.heap.size 86)]) [] B hw (ci_86 l D cy s.heap.size qs qv qf _) km_X12_init kn_X12_init rfl lm_L_12 dL_law_12 hl.1 rfl rfl (Nat.le_of_ble_eq_true rfl) ⟨Nat.le_of_ble_eq_true rfl, Nat.le_of_ble_eq_true rfl⟩ ⟨Nat.le_of_ble_eq_true rfl, Nat.le_of_ble_eq_true rfl⟩ (fun H locs hw => ?_)
  refine W.widen (k := 200) (n := 50000) (Nat.le_of_ble_eq_true rfl) (Nat.le_of_ble_eq_true rfl) ?_
  refine lv_astore_n (lv' := [(2, .ref (mAd s.heap.size 86)), (1, .ref (mAd s.heap.size 0)), (0, .ref b)]) hx hb dL_law_15 rfl hl (by decide) rfl (fun ls hl => ?_)
  refine lv_iconst (v := mI ((0 : Nat) : Int)) hx hb dL_law_16 rfl ?_
  refine lv_istore_n (lv' := [(3, .int (mI ((0 : Nat) : Int))), (2, .ref (mAd s.heap.size 86)), (1, .ref (mAd s.heap.size 0)), (0, .ref b)]) hx hb dL_law_17 rfl hl (by decide) rfl (fun ls hl => ?_)
  have hw2 : mWd D cy (mAd s.heap.size) s.heap.size true mN mM0 s.heap H locs := by
    obtain ⟨⟨q1, q2, q3, q4⟩, -⟩ := hw
    refine ⟨?_, ?_, q3, q4⟩
    · rw [← mWs_ft m0_refs]
      exact q1
    · rw [← mWs_ft m0_refs]
      exact q2
  exact law_loop B.1 hX hbl hL ⟨Nat.le_of_ble_eq_true rfl, Nat.le_of_ble_eq_true rfl⟩ (L + 1) 0 0 mM0 H locs ls 3 8 (by omega) rfl (by decide) hw2 m0_rel m0_own (lv_sub hl [3, 2, 1, 0] rfl)
