/-! LAYER 1: the text's own methods -/
theorem km_J0_length_8abf5 : mKm yJ0_length_8abf5 cJ0_length_8abf5 1 (some .int) 0 := ⟨kc_J0_length_8abf5, ii_J0, by decide +kernel, by decide +kernel, by decide +kernel, by decide +kernel⟩
theorem km_J0_coder_7d493 : mKm yJ0_coder_7d493 cJ0_coder_7d493 1 (some .byte) 0 := ⟨kc_J0_coder_7d493, ii_J0, by decide +kernel, by decide +kernel, by decide +kernel, by decide +kernel⟩
theorem km_J0_charAt_5068e : mKm yJ0_charAt_5068e cJ0_charAt_5068e 2 (some .char) 1 := ⟨kc_J0_charAt_5068e, ii_J0, by decide +kernel, by decide +kernel, by decide +kernel, by decide +kernel⟩
theorem km_J0_isLatin1_aae02 : mKm yJ0_isLatin1_aae02 cJ0_isLatin1_aae02 1 (some .boolean) 0 := ⟨kc_J0_isLatin1_aae02, ii_J0, by decide +kernel, by decide +kernel, by decide +kernel, by decide +kernel⟩
theorem km_J0_checkIndex_df160 : mKm yJ0_checkIndex_df160 cJ0_checkIndex_df160 2 none 2 := ⟨kc_J0_checkIndex_df160, ii_J0, by decide +kernel, by decide +kernel, by decide +kernel, by decide +kernel⟩
theorem km_J1_charAt_3b067 : mKm yJ1_charAt_3b067 cJ1_charAt_3b067 2 (some .char) 2 := ⟨kc_J1_charAt_3b067, ii_J1, by decide +kernel, by decide +kernel, by decide +kernel, by decide +kernel⟩
theorem km_J3_checkIndex_8e157 : mKm yJ3_checkIndex_8e157 cJ3_checkIndex_8e157 3 (some .int) 3 := ⟨kc_J3_checkIndex_8e157, ii_J3, by decide +kernel, by decide +kernel, by decide +kernel, by decide +kernel⟩
/-- a call that changes nothing and answers nothing -/
def mPv (l : Launch) (E : State → Prop) (y : MethodName) (bytes : ByteArray) (maxL : Nat) (h : Nat) (As : List Value) (sz : Nat) : Prop :=
  Met l y (.code y bytes maxL none :: lw_g) (mRm h) (va_Pc As (fun U => E U ∧ U.heap.size = sz)) (va_Qv (fun _ : Unit => True) (fun _ U => U.heap.size = sz) (fun _ => False)) 0 0 (fun _ => False)
/-- what such a method asks doesn't hang on what stands on the stack -/
def mBl (E : State → Prop) : Prop := ∀ U U' : State, U'.heap = U.heap → U'.vm = U.vm → E U → E U'
theorem mSx_bl {bs qs qv : Nat} {qf : Option Nat} : mBl (fun U => mSx bs qs qv qf U U.heap) := fun U U' h1 h2 h => by
  show mSx bs qs qv qf U' U'.heap
  rw [h1]
  exact h.go (by rw [h2]; exact Vm.Alike.refl _) (fun _ _ _ => rfl)
theorem heap_same {H H1 : Heap} (z : H1.size = H.size) (k : ∀ q : Nat, q < H.size → H1[q]? = H[q]?) : H1 = H := by
  apply Array.ext_getElem?
  intro q
  by_cases h : q < H.size
  · exact k q h
  · rw [Array.getElem?_eq_none (by omega), Array.getElem?_eq_none (by omega)]
section PJ
variable {p : Program} {l : Launch} {e : Env} {R : Room} {s : State} {m : MethodId} {args : Array Value} {below : List Frame} {meth : Method} {c : Code} {H : Heap} {locs : List Loc} {cells slots : Nat} {Q : State → Prop}
variable {cc : ByteArray} {pc nL bs n qs qv : Nat} {qf : Option Nat} {ls : Array Slot} {rest st : List Value} {own : String} {A0 : Nat → Prop}
theorem mPi.of {E : State → Prop} {y : MethodName} {bytes : ByteArray} {maxL h sz : Nat} {ret : Option FieldType} {As : List Value} {r : Int32} {lv : List (Nat × Value)} (hy : plainFor y = true) (hlen : (lg_sl As).length ≤ maxL) (hlv : lv_args 0 As = lv)
    (body : ∀ (p : Program) (e : Env) (s : State) (m : MethodId) (args : Array Value) (below : List Frame) (meth : Method) (c : Code) (ls : Array Slot), CallFix p m c bytes maxL s args lw_g y.cls → meth.locks = false → meth.sig.returnType = ret → E s → s.heap.size = sz → lv_has ls maxL lv →
      W p l e (mRm h) s m args below meth c s.heap [] 0 0 (MQ below (va_Qi (fun v (_ : Unit) => v = r) (fun _ U => U.heap.size = sz) (fun _ => False)) args s 0 0 (fun _ => False)) (F0 m 0 ls [])) : mPi l E y bytes maxL ret h As sz r := by
  refine mMet_of (cc := bytes) (maxL := maxL) (ret := ret) hy rfl ?_
  intro p e s m args below meth c s₁ B hml hv
  obtain ⟨ha, hE, hsz⟩ := hv
  subst ha
  subst hlv
  have hts0 : ∀ w ∈ (Cond.code y bytes maxL ret :: lw_g), w.before As.toArray s = true := atoms_spec (ws := Cond.code y bytes maxL ret :: lw_g) B.pre
  have hl := lv_entry As (n := maxL) hlen
  rw [lg_entry_eq]
  generalize (lg_sl As ++ List.replicate (maxL - (lg_sl As).length) Slot.unset).toArray = ls at hl ⊢
  exact body p e s m As.toArray below meth c ls ⟨B.exec, B.bytes, hml, findClass_of_methodNamed B.named, fun w hw => hts0 w (List.mem_cons_of_mem _ hw)⟩ B.notSynchronized B.returns hE hsz hl
theorem mPv.of {E : State → Prop} {y : MethodName} {bytes : ByteArray} {maxL h sz : Nat} {As : List Value} {lv : List (Nat × Value)} (hy : plainFor y = true) (hlen : (lg_sl As).length ≤ maxL) (hlv : lv_args 0 As = lv)
    (body : ∀ (p : Program) (e : Env) (s : State) (m : MethodId) (args : Array Value) (below : List Frame) (meth : Method) (c : Code) (ls : Array Slot), CallFix p m c bytes maxL s args lw_g y.cls → meth.locks = false → meth.sig.returnType = none → E s → s.heap.size = sz → lv_has ls maxL lv →
      W p l e (mRm h) s m args below meth c s.heap [] 0 0 (MQ below (va_Qv (fun _ : Unit => True) (fun _ U => U.heap.size = sz) (fun _ => False)) args s 0 0 (fun _ => False)) (F0 m 0 ls [])) : mPv l E y bytes maxL h As sz := by
  refine mMet_of (cc := bytes) (maxL := maxL) (ret := none) hy rfl ?_
  intro p e s m args below meth c s₁ B hml hv
  obtain ⟨ha, hE, hsz⟩ := hv
  subst ha
  subst hlv
  have hts0 : ∀ w ∈ (Cond.code y bytes maxL none :: lw_g), w.before As.toArray s = true := atoms_spec (ws := Cond.code y bytes maxL none :: lw_g) B.pre
  have hl := lv_entry As (n := maxL) hlen
  rw [lg_entry_eq]
  generalize (lg_sl As ++ List.replicate (maxL - (lg_sl As).length) Slot.unset).toArray = ls at hl ⊢
  exact body p e s m As.toArray below meth c ls ⟨B.exec, B.bytes, hml, findClass_of_methodNamed B.named, fun w hw => hts0 w (List.mem_cons_of_mem _ hw)⟩ B.notSynchronized B.returns hE hsz hl
theorem pj_ret {v : Int32} {ty : FieldType} {sz : Nat} (S : CallFix p m c cc nL s args lw_g own) (hlk : meth.locks = false) (hr : meth.sig.returnType = some ty) (hsz : s.heap.size = sz) (hn : narrow ty (.int v) = .int v) (hdg : decode cc pc = .ok (.ireturn, 1)) : W p l e R s m args below meth c s.heap [] 0 0 (MQ below (va_Qi (fun x (_ : Unit) => x = v) (fun _ U => U.heap.size = sz) (fun _ => False)) args s 0 0 (fun _ => False)) (F0 m pc ls [.int v]) :=
  W.zret S.1 S.2.1 hr hn (fun t ht _ => ⟨⟨v, (), rfl, rfl, (congrArg Array.size ht).trans hsz⟩, ⟨Nat.le_of_eq (congrArg Array.size ht).symm, fun q _ _ => by rw [ht]⟩⟩) (fun q hq => by cases hq) hdg hlk
theorem pj_vret {sz : Nat} (S : CallFix p m c cc nL s args lw_g own) (hlk : meth.locks = false) (hr : meth.sig.returnType = none) (hsz : s.heap.size = sz) (hdg : decode cc pc = .ok (.return_, 1)) : W p l e R s m args below meth c s.heap [] 0 0 (MQ below (va_Qv (fun _ : Unit => True) (fun _ U => U.heap.size = sz) (fun _ => False)) args s 0 0 (fun _ => False)) (F0 m pc ls []) :=
  W.vret S.1 S.2.1 hr (fun t ht _ => ⟨⟨(), rfl, trivial, (congrArg Array.size ht).trans hsz⟩, ⟨Nat.le_of_eq (congrArg Array.size ht).symm, fun q _ _ => by rw [ht]⟩⟩) (fun q hq => by cases hq) hdg hlk
theorem pj_cv {E : State → Prop} {b h' sz maxL index nA : Nat} {C : String} {y : MethodName} {bytes : ByteArray} {rt : Option FieldType} {r : Int32} (As : List Value) (S : CallFix p m c cc nL s args lw_g own) (hM : mPi l E y bytes maxL rt h' (.ref b :: As) sz r) (hbl : mBl E) (hE : ∀ U : State, U.heap = H → s.WarmedH U.vm → E U) (hz0 : H.size = sz) (hS : va_S A0 s.heap H locs) (hrec : ∃ cell : Cell, H[b]? = some cell ∧ cell.vm.isStatics = false ∧ s.vm.findClass C = some cell.cls) (hyC : y.cls = C) (K : mKm y bytes maxL rt nA) (V : Cond.instanceMethod y ∈ lw_g ∧ Cond.selects y.cls y y ∈ lw_g) (hlk : Cond.methodLink own index y ∈ lw_g) (hdg : decode cc pc = .ok (.invokevirtual index, 3)) (hsz : ls.size = nL) (hst : st = As.reverse ++ .ref b :: rest) (hn : As.length = nA) (hcat : (rest.map fun v => v.category).sum ≤ 8) (hR : h' + 1 ≤ R.frames ∧ 8 + (maxL + 11) + 64 * h' ≤ R.locals) (hRc : cells ≤ R.cells ∧ slots ≤ R.slots)
    (kk : ∀ locs1 : List Loc, va_S A0 s.heap H locs1 → W p l e R s m args below meth c H locs1 cells slots Q (F0 m (pc + 3) ls (.int r :: rest))) : W p l e R s m args below meth c H locs cells slots Q (F0 m pc ls st) := by
  obtain ⟨hx, hb, hml, hown, hts⟩ := S
  obtain ⟨k1, k2, k3, k4, k5, k6⟩ := K
  subst hyC
  refine va_calli (va_runV (As := As) (rest := rest) ⟨hx, hb, hml, hown, hts⟩ hM ⟨callB_of nA hts (lw_g_good k1) rfl rfl rfl (hts _ k2) (hts _ hlk) ⟨k3, k4, k5⟩ hR, hts _ V.1, hts _ V.2⟩ ⟨fun a U g mk q => ⟨q.1, hbl U (U.calling g mk a) rfl rfl q.2.1, q.2.2⟩, hrec, fun U hU hW => ⟨rfl, hE U hU hW, by rw [hU]; exact hz0⟩⟩ rfl hn hsz hst (lv_room hcat) hdg hRc) hS (fun _ _ h => h.elim) (fun _ h => h.elim) (fun v u t H1 locs1 ht hvm hpost hB hz hk hS1 => ?_)
  subst hpost
  have e1 : H1 = H := heap_same (by rw [← ht, hz0]; exact hB) (fun q hq => hk q hq (fun h => h))
  subst e1
  exact kk locs1 hS1
theorem pj_cs {E : State → Prop} {h' sz maxL index nA : Nat} {y : MethodName} {bytes : ByteArray} {rt : Option FieldType} {r : Int32} (As : List Value) (S : CallFix p m c cc nL s args lw_g own) (hM : mPi l E y bytes maxL rt h' As sz r) (hbl : mBl E) (hE : ∀ U : State, U.heap = H → s.WarmedH U.vm → E U) (hz0 : H.size = sz) (hS : va_S A0 s.heap H locs) (K : mKm y bytes maxL rt nA) (V : Cond.static y ∈ lw_g) (hlk : Cond.methodLink own index y ∈ lw_g) (hdg : decode cc pc = .ok (.invokestatic index, 3)) (hsz : ls.size = nL) (hst : st = As.reverse ++ rest) (hn : As.length = nA) (hcat : (rest.map fun v => v.category).sum ≤ 8) (hR : h' + 1 ≤ R.frames ∧ 8 + (maxL + 11) + 64 * h' ≤ R.locals) (hRc : cells ≤ R.cells ∧ slots ≤ R.slots)
    (kk : ∀ locs1 : List Loc, va_S A0 s.heap H locs1 → W p l e R s m args below meth c H locs1 cells slots Q (F0 m (pc + 3) ls (.int r :: rest))) : W p l e R s m args below meth c H locs cells slots Q (F0 m pc ls st) := by
  obtain ⟨hx, hb, hml, hown, hts⟩ := S
  obtain ⟨k1, k2, k3, k4, k5, k6⟩ := K
  refine va_calli (va_runS (As := As) (rest := rest) ⟨hx, hb, hml, hown, hts⟩ hM ⟨callB_of nA hts (lw_g_good k1) rfl rfl rfl (hts _ k2) (hts _ hlk) ⟨k3, k4, k5⟩ hR, hts _ V⟩ ⟨fun a U g mk q => ⟨q.1, hbl U (U.calling g mk a) rfl rfl q.2.1, q.2.2⟩, fun U hU hW => ⟨rfl, hE U hU hW, by rw [hU]; exact hz0⟩⟩ rfl hn hsz hst (lv_room hcat) hdg hRc) hS (fun _ _ h => h.elim) (fun _ h => h.elim) (fun v u t H1 locs1 ht hvm hpost hB hz hk hS1 => ?_)
  subst hpost
  have e1 : H1 = H := heap_same (by rw [← ht, hz0]; exact hB) (fun q hq => hk q hq (fun h => h))
  subst e1
  exact kk locs1 hS1
theorem pj_csv {E : State → Prop} {h' sz maxL index nA : Nat} {y : MethodName} {bytes : ByteArray} (As : List Value) (S : CallFix p m c cc nL s args lw_g own) (hM : mPv l E y bytes maxL h' As sz) (hbl : mBl E) (hE : ∀ U : State, U.heap = H → s.WarmedH U.vm → E U) (hz0 : H.size = sz) (hS : va_S A0 s.heap H locs) (K : mKm y bytes maxL none nA) (V : Cond.static y ∈ lw_g) (hlk : Cond.methodLink own index y ∈ lw_g) (hdg : decode cc pc = .ok (.invokestatic index, 3)) (hsz : ls.size = nL) (hst : st = As.reverse ++ rest) (hn : As.length = nA) (hcat : (rest.map fun v => v.category).sum ≤ 8) (hR : h' + 1 ≤ R.frames ∧ 8 + (maxL + 11) + 64 * h' ≤ R.locals) (hRc : cells ≤ R.cells ∧ slots ≤ R.slots)
    (kk : ∀ locs1 : List Loc, va_S A0 s.heap H locs1 → W p l e R s m args below meth c H locs1 cells slots Q (F0 m (pc + 3) ls rest)) : W p l e R s m args below meth c H locs cells slots Q (F0 m pc ls st) := by
  obtain ⟨hx, hb, hml, hown, hts⟩ := S
  obtain ⟨k1, k2, k3, k4, k5, k6⟩ := K
  refine va_callv (va_runS (As := As) (rest := rest) ⟨hx, hb, hml, hown, hts⟩ hM ⟨callB_of nA hts (lw_g_good k1) rfl rfl rfl (hts _ k2) (hts _ hlk) ⟨k3, k4, k5⟩ hR, hts _ V⟩ ⟨fun a U g mk q => ⟨q.1, hbl U (U.calling g mk a) rfl rfl q.2.1, q.2.2⟩, fun U hU hW => ⟨rfl, hE U hU hW, by rw [hU]; exact hz0⟩⟩ rfl hn hsz hst (lv_room hcat) hdg hRc) hS (fun _ _ h => h.elim) (fun _ h => h.elim) (fun u t H1 locs1 ht hvm hpost hB hz hk hS1 => ?_)
  have e1 : H1 = H := heap_same (by rw [← ht, hz0]; exact hB) (fun q hq => hk q hq (fun h => h))
  subst e1
  exact kk locs1 hS1
theorem no_locs {H0 H : Heap} {locs : List Loc} (h : va_S (fun _ => False) H0 H locs) : locs = [] := List.eq_nil_iff_forall_not_mem.mpr (fun x hx => h.2.2 x hx)
theorem mSx.at {U : State} (h : mSx bs qs qv qf s s.heap) (hU : U.heap = s.heap) (hW : s.WarmedH U.vm) : mSx bs qs qv qf U U.heap := by
  rw [hU]
  exact h.go hW.alike (fun _ _ _ => rfl)
end PJ
theorem cp_check3 (l : Launch) (sz : Nat) (qf : Option Nat) {i k : Int32} (h0 : ¬ i < 0) (h1 : i < k) : mPi l (fun _ => True) yJ3_checkIndex_8e157 cJ3_checkIndex_8e157 3 (some .int) 1 [.int i, .int k, va_rf qf] sz i := by
  rcases qf with _ | a
  · refine mPi.of (As := [.int i, .int k, .null]) (lv := [(0, .int i), (1, .int k), (2, .null)]) km_J3_checkIndex_8e157.2.2.2.2.2 (Nat.le_of_ble_eq_true rfl) rfl (fun p e s m args below meth c ls S hlk hr _ hsz hl => ?_)
    obtain ⟨hx, hb, hml, hown, hts⟩ := id S
    refine lv_iload_n hx hb dJ3_checkIndex_8e157_0 rfl (lv_at hl 0 rfl) ?_
    refine lv_if_lt (tgt := 9) hx hb dJ3_checkIndex_8e157_1 (by decide) (fun q => absurd q h0) (fun _ => ?_)
    refine lv_iload_n hx hb dJ3_checkIndex_8e157_4 rfl (lv_at hl 0 rfl) ?_
    refine lv_iload_n hx hb dJ3_checkIndex_8e157_5 rfl (lv_at hl 1 rfl) ?_
    refine lv_icmp_lt (tgt := 16) hx hb dJ3_checkIndex_8e157_6 (by decide) (fun _ => ?_) (fun q => absurd h1 q)
    refine lv_iload_n hx hb dJ3_checkIndex_8e157_16 rfl (lv_at hl 0 rfl) ?_
    exact pj_ret S hlk hr hsz (vp_nar_int _) dJ3_checkIndex_8e157_17
  · refine mPi.of (As := [.int i, .int k, .ref a]) (lv := [(0, .int i), (1, .int k), (2, .ref a)]) km_J3_checkIndex_8e157.2.2.2.2.2 (Nat.le_of_ble_eq_true rfl) rfl (fun p e s m args below meth c ls S hlk hr _ hsz hl => ?_)
    obtain ⟨hx, hb, hml, hown, hts⟩ := id S
    refine lv_iload_n hx hb dJ3_checkIndex_8e157_0 rfl (lv_at hl 0 rfl) ?_
    refine lv_if_lt (tgt := 9) hx hb dJ3_checkIndex_8e157_1 (by decide) (fun q => absurd q h0) (fun _ => ?_)
    refine lv_iload_n hx hb dJ3_checkIndex_8e157_4 rfl (lv_at hl 0 rfl) ?_
    refine lv_iload_n hx hb dJ3_checkIndex_8e157_5 rfl (lv_at hl 1 rfl) ?_
    refine lv_icmp_lt (tgt := 16) hx hb dJ3_checkIndex_8e157_6 (by decide) (fun _ => ?_) (fun q => absurd h1 q)
    refine lv_iload_n hx hb dJ3_checkIndex_8e157_16 rfl (lv_at hl 0 rfl) ?_
    exact pj_ret S hlk hr hsz (vp_nar_int _) dJ3_checkIndex_8e157_17
theorem cp_check (l : Launch) (bs qs qv : Nat) (qf : Option Nat) (sz : Nat) {i k : Int32} (h0 : ¬ i < 0) (h1 : i < k) : mPv l (fun U => mSx bs qs qv qf U U.heap) yJ0_checkIndex_df160 cJ0_checkIndex_df160 2 2 [.int i, .int k] sz := by
  refine mPv.of (lv := [(0, .int i), (1, .int k)]) km_J0_checkIndex_df160.2.2.2.2.2 (Nat.le_of_ble_eq_true rfl) rfl (fun p e s m args below meth c ls S hlk hr hE hsz hl => ?_)
  obtain ⟨hx, hb, hml, hown, hts⟩ := id S
  refine lv_iload_n hx hb dJ0_checkIndex_df160_0 rfl (lv_at hl 0 rfl) ?_
  refine lv_iload_n hx hb dJ0_checkIndex_df160_1 rfl (lv_at hl 1 rfl) ?_
  refine va_gets hx hb hE.2.1 va_S.rf hown (hts _ lf_J0_1053) (fun _ h => h) dJ0_checkIndex_df160_2 ?_
  refine pj_cs (rest := []) (A0 := fun _ => False) [.int i, .int k, va_rf qf] S (cp_check3 l sz qf h0 h1) (fun _ _ _ _ h => h) (fun _ _ _ => trivial) hsz va_S.rf km_J3_checkIndex_8e157 ks_J3_checkIndex_8e157 lm_J0_1059 dJ0_checkIndex_df160_5 hl.1 rfl rfl (Nat.le_of_ble_eq_true rfl) ⟨by decide, by decide⟩ ⟨Nat.le_refl _, Nat.le_refl _⟩ (fun locs1 hS1 => ?_)
  rw [no_locs hS1]
  refine lv_pop hx hb dJ0_checkIndex_df160_8 rfl ?_
  exact pj_vret S hlk hr hsz dJ0_checkIndex_df160_9
theorem cp_coder (l : Launch) (bs qs qv : Nat) (qf : Option Nat) (sz : Nat) : mPi l (fun U => mSx bs qs qv qf U U.heap) yJ0_coder_7d493 cJ0_coder_7d493 1 (some .byte) 1 [.ref qs] sz 0 := by
  refine mPi.of (lv := [(0, .ref qs)]) km_J0_coder_7d493.2.2.2.2.2 (Nat.le_of_ble_eq_true rfl) rfl (fun p e s m args below meth c ls S hlk hr hE hsz hl => ?_)
  obtain ⟨hx, hb, hml, hown, hts⟩ := id S
  refine va_gets hx hb hE.1 va_S.rf hown (hts _ lf_J0_38) (fun _ h => h) dJ0_coder_7d493_0 ?_
  refine lv_if_eq (tgt := 13) hx hb dJ0_coder_7d493_3 (by decide) (fun q => absurd q (by decide)) (fun _ => ?_)
  refine lv_aload_n hx hb dJ0_coder_7d493_6 rfl (lv_at hl 0 rfl) ?_
  refine vk_getf hx hb hE.2.2.2.1 va_S.rf hown (hts _ lf_J0_15) (fun _ h => h) dJ0_coder_7d493_7 ?_
  refine lv_goto (tgt := 14) hx hb dJ0_coder_7d493_10 (by decide) ?_
  exact pj_ret S hlk hr hsz rfl dJ0_coder_7d493_14
theorem cp_isLatin1 (l : Launch) (bs qs qv : Nat) (qf : Option Nat) (sz : Nat) : mPi l (fun U => mSx bs qs qv qf U U.heap) yJ0_isLatin1_aae02 cJ0_isLatin1_aae02 1 (some .boolean) 1 [.ref qs] sz 1 := by
  refine mPi.of (lv := [(0, .ref qs)]) km_J0_isLatin1_aae02.2.2.2.2.2 (Nat.le_of_ble_eq_true rfl) rfl (fun p e s m args below meth c ls S hlk hr hE hsz hl => ?_)
  obtain ⟨hx, hb, hml, hown, hts⟩ := id S
  refine va_gets hx hb hE.1 va_S.rf hown (hts _ lf_J0_38) (fun _ h => h) dJ0_isLatin1_aae02_0 ?_
  refine lv_if_eq (tgt := 17) hx hb dJ0_isLatin1_aae02_3 (by decide) (fun q => absurd q (by decide)) (fun _ => ?_)
  refine lv_aload_n hx hb dJ0_isLatin1_aae02_6 rfl (lv_at hl 0 rfl) ?_
  refine vk_getf hx hb hE.2.2.2.1 va_S.rf hown (hts _ lf_J0_15) (fun _ h => h) dJ0_isLatin1_aae02_7 ?_
  refine lv_if_ne (tgt := 17) hx hb dJ0_isLatin1_aae02_10 (by decide) (fun q => absurd rfl q) (fun _ => ?_)
  refine lv_iconst (v := 1) hx hb dJ0_isLatin1_aae02_13 (by decide) ?_
  refine lv_goto (tgt := 18) hx hb dJ0_isLatin1_aae02_14 (by decide) ?_
  exact pj_ret S hlk hr hsz rfl dJ0_isLatin1_aae02_18
theorem cp_length (l : Launch) (bs qs qv : Nat) (qf : Option Nat) (sz : Nat) : mPi l (fun U => mSx bs qs qv qf U U.heap) yJ0_length_8abf5 cJ0_length_8abf5 1 (some .int) 2 [.ref qs] sz 132 := by
  refine mPi.of (lv := [(0, .ref qs)]) km_J0_length_8abf5.2.2.2.2.2 (Nat.le_of_ble_eq_true rfl) rfl (fun p e s m args below meth c ls S hlk hr hE hsz hl => ?_)
  obtain ⟨hx, hb, hml, hown, hts⟩ := id S
  refine lv_aload_n hx hb dJ0_length_8abf5_0 rfl (lv_at hl 0 rfl) ?_
  refine vk_getf hx hb hE.2.2.2.2.1 va_S.rf hown (hts _ lf_J0_9) (fun _ h => h) dJ0_length_8abf5_1 ?_
  refine va_tlen (v := 132) hx hb hE.2.2.2.2.2 va_S.rf (by decide) dJ0_length_8abf5_4 ?_
  refine lv_aload_n hx hb dJ0_length_8abf5_5 rfl (lv_at hl 0 rfl) ?_
  obtain ⟨cell, r1, r2, r3, -⟩ := hE.2.2.1
  refine pj_cv (b := qs) (rest := [.int 132]) (A0 := fun _ => False) (C := RJ0) [] S (cp_coder l bs qs qv qf sz) mSx_bl (fun U hU hW => hE.at hU hW) hsz va_S.rf ⟨cell, r1, r2, r3⟩ rfl km_J0_coder_7d493 ⟨kn_J0_coder_7d493, kz_J0_coder_7d493⟩ lm_J0_335 dJ0_length_8abf5_6 hl.1 rfl rfl (Nat.le_of_ble_eq_true rfl) ⟨by decide, by decide⟩ ⟨Nat.le_refl _, Nat.le_refl _⟩ (fun locs1 hS1 => ?_)
  rw [no_locs hS1]
  refine lv_ishr hx hb dJ0_length_8abf5_9 ?_
  have e9 : (132 : Int32) >>> ((0 : Int32) &&& 31) = 132 := by decide
  rw [e9]
  exact pj_ret S hlk hr hsz (vp_nar_int _) dJ0_length_8abf5_10
theorem mTx_ok : ∀ k, k < 132 → ((mTx.getD k 0 &&& 255).toUInt32 % 65536).toInt32 = mTx.getD k 0 ∧ narrow .char (.int (mTx.getD k 0)) = .int (mTx.getD k 0) := by decide +kernel
theorem cp_latin (l : Launch) (bs qs qv : Nat) (qf : Option Nat) (sz : Nat) {i : Int32} {k : Nat} (hi : i.toNatClampNeg = k) (h0 : ¬ i < 0) (h1 : i < 132) (hk : k < 132) : mPi l (fun U => mSx bs qs qv qf U U.heap) yJ1_charAt_3b067 cJ1_charAt_3b067 2 (some .char) 3 [.ref qv, .int i] sz (mTx.getD k 0) := by
  refine mPi.of (lv := [(0, .ref qv), (1, .int i)]) km_J1_charAt_3b067.2.2.2.2.2 (Nat.le_of_ble_eq_true rfl) rfl (fun p e s m args below meth c ls S hlk hr hE hsz hl => ?_)
  obtain ⟨hx, hb, hml, hown, hts⟩ := id S
  refine lv_iload_n hx hb dJ1_charAt_3b067_0 rfl (lv_at hl 1 rfl) ?_
  refine lv_aload_n hx hb dJ1_charAt_3b067_1 rfl (lv_at hl 0 rfl) ?_
  refine va_tlen (v := 132) hx hb hE.2.2.2.2.2 va_S.rf (by decide) dJ1_charAt_3b067_2 ?_
  refine pj_csv (rest := []) (A0 := fun _ => False) [.int i, .int 132] S (cp_check l bs qs qv qf sz h0 h1) mSx_bl (fun U hU hW => hE.at hU hW) hsz va_S.rf km_J0_checkIndex_df160 ks_J0_checkIndex_df160 lm_J1_9 dJ1_charAt_3b067_3 hl.1 rfl rfl (Nat.le_of_ble_eq_true rfl) ⟨by decide, by decide⟩ ⟨Nat.le_refl _, Nat.le_refl _⟩ (fun locs1 hS1 => ?_)
  rw [no_locs hS1]
  refine lv_aload_n hx hb dJ1_charAt_3b067_6 rfl (lv_at hl 0 rfl) ?_
  refine lv_iload_n hx hb dJ1_charAt_3b067_7 rfl (lv_at hl 1 rfl) ?_
  refine va_tb (v := .int (mTx.getD k 0)) hx hb hE.2.2.2.2.2 va_S.rf (fun q => by
    rcases q with q | q
    · exact h0 q
    · omega) (by rw [hi]) dJ1_charAt_3b067_8 ?_
  refine lv_sipush (v := 255) hx hb dJ1_charAt_3b067_9 (by decide) ?_
  refine lv_iand hx hb dJ1_charAt_3b067_12 ?_
  refine lv_i2c (v := mTx.getD k 0) hx hb dJ1_charAt_3b067_13 (mTx_ok k hk).1 ?_
  exact pj_ret S hlk hr hsz (mTx_ok k hk).2 dJ1_charAt_3b067_14
theorem cp_charAt (l : Launch) (bs qs qv : Nat) (qf : Option Nat) (sz : Nat) {i : Int32} {k : Nat} (hi : i.toNatClampNeg = k) (h0 : ¬ i < 0) (h1 : i < 132) (hk : k < 132) : mPi l (fun U => mSx bs qs qv qf U U.heap) yJ0_charAt_5068e cJ0_charAt_5068e 2 (some .char) 4 [.ref qs, .int i] sz (mTx.getD k 0) := by
  refine mPi.of (lv := [(0, .ref qs), (1, .int i)]) km_J0_charAt_5068e.2.2.2.2.2 (Nat.le_of_ble_eq_true rfl) rfl (fun p e s m args below meth c ls S hlk hr hE hsz hl => ?_)
  obtain ⟨hx, hb, hml, hown, hts⟩ := id S
  refine lv_aload_n hx hb dJ0_charAt_5068e_0 rfl (lv_at hl 0 rfl) ?_
  obtain ⟨cell, r1, r2, r3, -⟩ := hE.2.2.1
  refine pj_cv (b := qs) (rest := []) (A0 := fun _ => False) (C := RJ0) [] S (cp_isLatin1 l bs qs qv qf sz) mSx_bl (fun U hU hW => hE.at hU hW) hsz va_S.rf ⟨cell, r1, r2, r3⟩ rfl km_J0_isLatin1_aae02 ⟨kn_J0_isLatin1_aae02, kz_J0_isLatin1_aae02⟩ lm_J0_492 dJ0_charAt_5068e_1 hl.1 rfl rfl (Nat.le_of_ble_eq_true rfl) ⟨by decide, by decide⟩ ⟨Nat.le_refl _, Nat.le_refl _⟩ (fun locs1 hS1 => ?_)
  rw [no_locs hS1]
  refine lv_if_eq (tgt := 16) hx hb dJ0_charAt_5068e_4 (by decide) (fun q => absurd q (by decide)) (fun _ => ?_)
  refine lv_aload_n hx hb dJ0_charAt_5068e_7 rfl (lv_at hl 0 rfl) ?_
  refine vk_getf hx hb hE.2.2.2.2.1 va_S.rf hown (hts _ lf_J0_9) (fun _ h => h) dJ0_charAt_5068e_8 ?_
  refine lv_iload_n hx hb dJ0_charAt_5068e_11 rfl (lv_at hl 1 rfl) ?_
  refine pj_cs (rest := []) (A0 := fun _ => False) [.ref qv, .int i] S (cp_latin l bs qs qv qf sz hi h0 h1 hk) mSx_bl (fun U hU hW => hE.at hU hW) hsz va_S.rf km_J1_charAt_3b067 ks_J1_charAt_3b067 lm_J0_495 dJ0_charAt_5068e_12 hl.1 rfl rfl (Nat.le_of_ble_eq_true rfl) ⟨by decide, by decide⟩ ⟨Nat.le_refl _, Nat.le_refl _⟩ (fun locs1 hS2 => ?_)
  rw [no_locs hS2]
  exact pj_ret S hlk hr hsz (mTx_ok k hk).2 dJ0_charAt_5068e_15
/-- where a letter of a word goes -/
theorem cp_shiftOf (l : Launch) (sz : Nat) (x : Int) : mPi l (fun _ => True) yX5_shiftOf cX5_shiftOf 1 (some .int) 1 [.int (mI x)] sz (mI (5 * (5 - x))) := by
  refine mPi.of (lv := [(0, .int (mI x))]) km_X5_shiftOf.2.2.2.2.2 (Nat.le_of_ble_eq_true rfl) rfl (fun p e s m args below meth c ls S hlk hr _ hsz hl => ?_)
  obtain ⟨hx, hb, hml, hown, hts⟩ := id S
  refine lv_iconst (v := mI 5) hx hb dX5_shiftOf_0 rfl ?_
  refine lv_iconst (v := mI 5) hx hb dX5_shiftOf_1 rfl ?_
  refine lv_iload_n hx hb dX5_shiftOf_2 rfl (lv_at hl 0 rfl) ?_
  refine lv_isub hx hb dX5_shiftOf_3 ?_
  rw [mI_sub]
  refine lv_imul hx hb dX5_shiftOf_4 ?_
  rw [mI_mul]
  exact pj_ret S hlk hr hsz (vp_nar_int _) dX5_shiftOf_5
