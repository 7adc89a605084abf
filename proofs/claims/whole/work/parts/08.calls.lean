/-! ends, calls, contracts -/
section MC
variable {p : Program} {l : Launch} {e : Env} {R : Room} {s : State} {m : MethodId} {args : Array Value} {below : List Frame} {meth : Method} {c : Code} {H : Heap} {locs : List Loc} {cells slots : Nat} {Q : State → Prop}
variable {cc : ByteArray} {pc nL bs n : Nat} {ls : Array Slot} {rest st : List Value} {D : va_G} {cy : Nat → ClassId} {ad : Nat → Nat} {md : Bool} {σ : mMem} {own : String} {ret : Option FieldType}
theorem mMet_of {y : MethodName} {ws ws' : List Cond} {rm : Room} {Pc : Array Value → State → Prop} {Qc : Array Value → State → Outcome → State → Prop} {mc ms : Nat} {free : Addr → Prop} {maxL : Nat} (hy : plainFor y = true) (hw : ws = Cond.code y cc maxL ret :: ws')
    (body : ∀ p e s m args below meth c s₁, BodyLoose p l y (headSpec ws rm) cc maxL ret e s m args below meth c s₁ → c.maxLocals = maxL → Pc args s →
      W p l e (headSpec ws rm).room s m args below meth c s.heap [] 0 0 (MQ below Qc args s mc ms free) (entryFrame m args maxL)) : Met l y ws rm Pc Qc mc ms free := by
  refine MetFree.of_bodySF (code := cc) (maxLocals := maxL) (ret := ret) hy (fun args s m h hn => ?_) (fun p e s m args below meth c s₁ B hml hP _ => ?_)
  · obtain ⟨meth, c, h1, h2, h3, h4, h5, h6, -, -⟩ := Cond.code_spec hn (atoms_spec (ws := ws) h _ (by rw [hw]; exact List.mem_cons_self))
    exact ⟨meth, c, h1, h2, h3, h4, h5, h6⟩
  · obtain ⟨t, a1, o, b1, b2, b3⟩ := body p e s m args below meth c s₁ B hml hP s₁ (by rw [B.state]; rfl) (Stand.of_body B)
    exact ⟨t, o, a1, b1, b2, ⟨b3.1, b3.2⟩⟩
theorem mWd.SW {t : State} (hw : mWd D cy ad bs md n σ s.heap H locs) (hK : va_K D vwCl (mtys cy) s) (ht : t.heap = H) (hvm : s.vm.Alike t.vm) : mSW D cy ad bs md n σ t := by
  refine ⟨by rw [ht]; exact hw.1, va_K.moved hvm hK, hw.2.1, ?_⟩
  rw [ht]
  exact Nat.le_trans hw.2.2.2 hw.2.2.1.1
theorem mWd.F {t : State} (hw : mWd D cy ad bs md n σ s.heap H locs) (ht : t.heap = H) : va_F (mA bs) s t := by
  refine ⟨by rw [ht]; exact hw.2.2.1.1, fun q h1 h2 => ?_⟩
  rw [ht]
  exact hw.2.2.1.2.1 q h1 h2
theorem r_iret {v r : Int} {σ' : mMem} (X : mCx p m c cc nL s args own meth D cy (some .int)) (hw : mWd D cy ad bs true mN σ s.heap H locs) (hdg : decode cc pc = .ok (.ireturn, 1)) (hf : some (v, σ) = some (r, σ')) : W p l e R s m args below meth c H locs 0 0 (MQ below (mQi D cy ad bs r σ') args s 0 0 (mA bs)) (F0 m pc ls [.int (mI v)]) := by
  cases hf
  obtain ⟨⟨hx, hb, -, -, -⟩, hK, hlk, hr⟩ := X
  exact W.iret hx hb hr (fun t ht hW => ⟨⟨mI v, σ, rfl, ⟨rfl, rfl⟩, hw.SW hK ht hW.alike⟩, hw.F ht⟩) hw.2.2.1.2.2 hdg hlk
theorem r_zret {v r : Int} {σ' : mMem} (X : mCx p m c cc nL s args own meth D cy (some .boolean)) (hw : mWd D cy ad bs true mN σ s.heap H locs) (hdg : decode cc pc = .ok (.ireturn, 1)) (hf : (if mw v = 0 ∨ mw v = 1 then some (v, σ) else none) = some (r, σ')) : W p l e R s m args below meth c H locs 0 0 (MQ below (mQi D cy ad bs r σ') args s 0 0 (mA bs)) (F0 m pc ls [.int (mI v)]) := by
  by_cases h : mw v = 0 ∨ mw v = 1
  · rw [if_pos h] at hf
    cases hf
    obtain ⟨⟨hx, hb, -, -, -⟩, hK, hlk, hr⟩ := X
    exact W.zret hx hb hr (mb01 h).1 (fun t ht hW => ⟨⟨mI v, σ, rfl, ⟨rfl, rfl⟩, hw.SW hK ht hW.alike⟩, hw.F ht⟩) hw.2.2.1.2.2 hdg hlk
  · rw [if_neg h] at hf
    cases hf
theorem r_lret {v r : Int} {σ' : mMem} (X : mCx p m c cc nL s args own meth D cy (some .long)) (hw : mWd D cy ad bs true mN σ s.heap H locs) (hdg : decode cc pc = .ok (.lreturn, 1)) (hf : some (v, σ) = some (r, σ')) : W p l e R s m args below meth c H locs 0 0 (MQ below (mQl D cy ad bs r σ') args s 0 0 (mA bs)) (F0 m pc ls [.long (mL v)]) := by
  cases hf
  obtain ⟨⟨hx, hb, -, -, -⟩, hK, hlk, hr⟩ := X
  exact W.lret hx hb hr (fun t ht hW => ⟨⟨mL v, σ, rfl, ⟨rfl, rfl⟩, hw.SW hK ht hW.alike⟩, hw.F ht⟩) hw.2.2.1.2.2 hdg hlk
theorem r_vret {v r : Int} {σ' : mMem} (X : mCx p m c cc nL s args own meth D cy none) (hw : mWd D cy ad bs true mN σ s.heap H locs) (hdg : decode cc pc = .ok (.return_, 1)) (hf : some (v, σ) = some (r, σ')) : W p l e R s m args below meth c H locs 0 0 (MQ below (mQv D cy ad bs σ') args s 0 0 (mA bs)) (F0 m pc ls []) := by
  cases hf
  obtain ⟨⟨hx, hb, -, -, -⟩, hK, hlk, hr⟩ := X
  exact W.vret hx hb hr (fun t ht hW => ⟨⟨σ, rfl, rfl, hw.SW hK ht hW.alike⟩, hw.F ht⟩) hw.2.2.1.2.2 hdg hlk
/-- the words of a method: its code and kind in the tables -/
def mKm (y : MethodName) (bytes : ByteArray) (maxL : Nat) (ret : Option FieldType) (nA : Nat) : Prop := Cond.code y bytes maxL ret ∈ lw_g ∧ Cond.initialized y.cls ∈ lw_g ∧ y.cls ≠ "java/lang/invoke/MethodHandle" ∧ y.cls ≠ "java/lang/invoke/VarHandle" ∧ (parseMethodDescriptor y.desc).map (fun d => d.parameters.length) = some nA ∧ plainFor y = true
def mKv (y : MethodName) : Prop := Cond.instanceMethod y ∈ lw_g ∧ Cond.selects y.cls y y ∈ lw_g
theorem r_cvi {o ci len N h' maxL index nA : Nat} {C : String} {T : u_T} {y : MethodName} {bytes : ByteArray} {rt : Option FieldType} {q : Option (Int × mMem)} {k9 : Int → mMem → Option (Int × mMem)} {z : Int × mMem} (As : List Value) (X : mCx p m c cc nL s args own meth D cy ret) (hw : mWd D cy ad bs true mN σ s.heap H locs) (hM : ∀ (r : Int) (σ' : mMem), q = some (r, σ') → mCi l D cy ad bs y bytes maxL rt h' (.ref (ad o) :: As) σ r σ') (hs : mSh o = (ci, len)) (hc : vwCl[ci]? = some (C, T, N)) (h13 : ci < 13) (hyC : y.cls = C) (K : mKm y bytes maxL rt nA) (V : mKv y) (hlk : Cond.methodLink own index y ∈ lw_g) (hdg : decode cc pc = .ok (.invokevirtual index, 3)) (hsz : ls.size = nL) (hst : st = As.reverse ++ .ref (ad o) :: rest) (hn : As.length = nA) (hcat : (rest.map fun v => v.category).sum ≤ 8) (hR : h' + 1 ≤ R.frames ∧ 8 + (maxL + 11) + 64 * h' ≤ R.locals) (hRc : cells ≤ R.cells ∧ slots ≤ R.slots) (hf : mob q k9 = some z)
    (kk : ∀ (r : Int) (σ' : mMem), q = some (r, σ') → k9 r σ' = some z → ∀ (H1 : Heap) (locs1 : List Loc), mWd D cy ad bs true mN σ' s.heap H1 locs1 → W p l e R s m args below meth c H1 locs1 cells slots Q (F0 m (pc + 3) ls (.int (mI r) :: rest))) : W p l e R s m args below meth c H locs cells slots Q (F0 m pc ls st) := by
  obtain ⟨r, σ', hq, hf2⟩ := mob_some hf
  obtain ⟨⟨hx, hb, hml, hown, hts⟩, hK, -⟩ := id X
  obtain ⟨k1, k2, k3, k4, k5, k6⟩ := K
  subst hyC
  have hrec := va_recv hK hw.1 hc (show (mWs cy ad true mN σ)[o]? = some (ad o, .inr (ci, mFs ad true (σ o) ci o)) by rw [mWs_at (mSh_lt hs (by omega)), mCell_o hs h13])
  refine va_calli (va_runV (As := As) (rest := rest) ⟨hx, hb, hml, hown, hts⟩ (hM r σ' hq) ⟨callB_of nA hts (lw_g_good k1) rfl rfl rfl (hts _ k2) (hts _ hlk) ⟨k3, k4, k5⟩ hR, hts _ V.1, hts _ V.2⟩ ⟨mSW.blind, hrec, fun U hU hW => ⟨rfl, hw.SW hK hU hW.alike⟩⟩ rfl hn hsz hst (lv_room hcat) hdg hRc) hw.2.2.1 (fun _ _ h => h) (fun _ h => h) (fun v u t H1 locs1 ht hvm hpost hB hz hk hS => ?_)
  obtain ⟨e1, e2⟩ := hpost
  subst e1
  subst e2
  exact kk r _ hq hf2 H1 locs1 ⟨by rw [← ht]; exact hB.1, hB.2.2.1, hS, hw.2.2.2⟩
theorem r_csi {h' maxL index nA : Nat} {y : MethodName} {bytes : ByteArray} {rt : Option FieldType} {q : Option (Int × mMem)} {k9 : Int → mMem → Option (Int × mMem)} {z : Int × mMem} (As : List Value) (X : mCx p m c cc nL s args own meth D cy ret) (hw : mWd D cy ad bs true mN σ s.heap H locs) (hM : ∀ (r : Int) (σ' : mMem), q = some (r, σ') → mCi l D cy ad bs y bytes maxL rt h' As σ r σ') (K : mKm y bytes maxL rt nA) (V : Cond.static y ∈ lw_g) (hlk : Cond.methodLink own index y ∈ lw_g) (hdg : decode cc pc = .ok (.invokestatic index, 3)) (hsz : ls.size = nL) (hst : st = As.reverse ++ rest) (hn : As.length = nA) (hcat : (rest.map fun v => v.category).sum ≤ 8) (hR : h' + 1 ≤ R.frames ∧ 8 + (maxL + 11) + 64 * h' ≤ R.locals) (hRc : cells ≤ R.cells ∧ slots ≤ R.slots) (hf : mob q k9 = some z)
    (kk : ∀ (r : Int) (σ' : mMem), q = some (r, σ') → k9 r σ' = some z → ∀ (H1 : Heap) (locs1 : List Loc), mWd D cy ad bs true mN σ' s.heap H1 locs1 → W p l e R s m args below meth c H1 locs1 cells slots Q (F0 m (pc + 3) ls (.int (mI r) :: rest))) : W p l e R s m args below meth c H locs cells slots Q (F0 m pc ls st) := by
  obtain ⟨r, σ', hq, hf2⟩ := mob_some hf
  obtain ⟨⟨hx, hb, hml, hown, hts⟩, hK, -⟩ := id X
  obtain ⟨k1, k2, k3, k4, k5, k6⟩ := K
  refine va_calli (va_runS (As := As) (rest := rest) ⟨hx, hb, hml, hown, hts⟩ (hM r σ' hq) ⟨callB_of nA hts (lw_g_good k1) rfl rfl rfl (hts _ k2) (hts _ hlk) ⟨k3, k4, k5⟩ hR, hts _ V⟩ ⟨mSW.blind, fun U hU hW => ⟨rfl, hw.SW hK hU hW.alike⟩⟩ rfl hn hsz hst (lv_room hcat) hdg hRc) hw.2.2.1 (fun _ _ h => h) (fun _ h => h) (fun v u t H1 locs1 ht hvm hpost hB hz hk hS => ?_)
  obtain ⟨e1, e2⟩ := hpost
  subst e1
  subst e2
  exact kk r _ hq hf2 H1 locs1 ⟨by rw [← ht]; exact hB.1, hB.2.2.1, hS, hw.2.2.2⟩
theorem r_cvl {o ci len N h' maxL index nA : Nat} {C : String} {T : u_T} {y : MethodName} {bytes : ByteArray} {rt : Option FieldType} {q : Option (Int × mMem)} {k9 : Int → mMem → Option (Int × mMem)} {z : Int × mMem} (As : List Value) (X : mCx p m c cc nL s args own meth D cy ret) (hw : mWd D cy ad bs true mN σ s.heap H locs) (hM : ∀ (r : Int) (σ' : mMem), q = some (r, σ') → mCl l D cy ad bs y bytes maxL rt h' (.ref (ad o) :: As) σ r σ') (hs : mSh o = (ci, len)) (hc : vwCl[ci]? = some (C, T, N)) (h13 : ci < 13) (hyC : y.cls = C) (K : mKm y bytes maxL rt nA) (V : mKv y) (hlk : Cond.methodLink own index y ∈ lw_g) (hdg : decode cc pc = .ok (.invokevirtual index, 3)) (hsz : ls.size = nL) (hst : st = As.reverse ++ .ref (ad o) :: rest) (hn : As.length = nA) (hcat : (rest.map fun v => v.category).sum ≤ 8) (hR : h' + 1 ≤ R.frames ∧ 8 + (maxL + 11) + 64 * h' ≤ R.locals) (hRc : cells ≤ R.cells ∧ slots ≤ R.slots) (hf : mob q k9 = some z)
    (kk : ∀ (r : Int) (σ' : mMem), q = some (r, σ') → k9 r σ' = some z → ∀ (H1 : Heap) (locs1 : List Loc), mWd D cy ad bs true mN σ' s.heap H1 locs1 → W p l e R s m args below meth c H1 locs1 cells slots Q (F0 m (pc + 3) ls (.long (mL r) :: rest))) : W p l e R s m args below meth c H locs cells slots Q (F0 m pc ls st) := by
  obtain ⟨r, σ', hq, hf2⟩ := mob_some hf
  obtain ⟨⟨hx, hb, hml, hown, hts⟩, hK, -⟩ := id X
  obtain ⟨k1, k2, k3, k4, k5, k6⟩ := K
  subst hyC
  have hrec := va_recv hK hw.1 hc (show (mWs cy ad true mN σ)[o]? = some (ad o, .inr (ci, mFs ad true (σ o) ci o)) by rw [mWs_at (mSh_lt hs (by omega)), mCell_o hs h13])
  refine va_calll (va_runV (As := As) (rest := rest) ⟨hx, hb, hml, hown, hts⟩ (hM r σ' hq) ⟨callB_of nA hts (lw_g_good k1) rfl rfl rfl (hts _ k2) (hts _ hlk) ⟨k3, k4, k5⟩ hR, hts _ V.1, hts _ V.2⟩ ⟨mSW.blind, hrec, fun U hU hW => ⟨rfl, hw.SW hK hU hW.alike⟩⟩ rfl hn hsz hst (lv_room hcat) hdg hRc) hw.2.2.1 (fun _ _ h => h) (fun _ h => h) (fun v u t H1 locs1 ht hvm hpost hB hz hk hS => ?_)
  obtain ⟨e1, e2⟩ := hpost
  subst e1
  subst e2
  exact kk r _ hq hf2 H1 locs1 ⟨by rw [← ht]; exact hB.1, hB.2.2.1, hS, hw.2.2.2⟩
theorem r_csl {h' maxL index nA : Nat} {y : MethodName} {bytes : ByteArray} {rt : Option FieldType} {q : Option (Int × mMem)} {k9 : Int → mMem → Option (Int × mMem)} {z : Int × mMem} (As : List Value) (X : mCx p m c cc nL s args own meth D cy ret) (hw : mWd D cy ad bs true mN σ s.heap H locs) (hM : ∀ (r : Int) (σ' : mMem), q = some (r, σ') → mCl l D cy ad bs y bytes maxL rt h' As σ r σ') (K : mKm y bytes maxL rt nA) (V : Cond.static y ∈ lw_g) (hlk : Cond.methodLink own index y ∈ lw_g) (hdg : decode cc pc = .ok (.invokestatic index, 3)) (hsz : ls.size = nL) (hst : st = As.reverse ++ rest) (hn : As.length = nA) (hcat : (rest.map fun v => v.category).sum ≤ 8) (hR : h' + 1 ≤ R.frames ∧ 8 + (maxL + 11) + 64 * h' ≤ R.locals) (hRc : cells ≤ R.cells ∧ slots ≤ R.slots) (hf : mob q k9 = some z)
    (kk : ∀ (r : Int) (σ' : mMem), q = some (r, σ') → k9 r σ' = some z → ∀ (H1 : Heap) (locs1 : List Loc), mWd D cy ad bs true mN σ' s.heap H1 locs1 → W p l e R s m args below meth c H1 locs1 cells slots Q (F0 m (pc + 3) ls (.long (mL r) :: rest))) : W p l e R s m args below meth c H locs cells slots Q (F0 m pc ls st) := by
  obtain ⟨r, σ', hq, hf2⟩ := mob_some hf
  obtain ⟨⟨hx, hb, hml, hown, hts⟩, hK, -⟩ := id X
  obtain ⟨k1, k2, k3, k4, k5, k6⟩ := K
  refine va_calll (va_runS (As := As) (rest := rest) ⟨hx, hb, hml, hown, hts⟩ (hM r σ' hq) ⟨callB_of nA hts (lw_g_good k1) rfl rfl rfl (hts _ k2) (hts _ hlk) ⟨k3, k4, k5⟩ hR, hts _ V⟩ ⟨mSW.blind, fun U hU hW => ⟨rfl, hw.SW hK hU hW.alike⟩⟩ rfl hn hsz hst (lv_room hcat) hdg hRc) hw.2.2.1 (fun _ _ h => h) (fun _ h => h) (fun v u t H1 locs1 ht hvm hpost hB hz hk hS => ?_)
  obtain ⟨e1, e2⟩ := hpost
  subst e1
  subst e2
  exact kk r _ hq hf2 H1 locs1 ⟨by rw [← ht]; exact hB.1, hB.2.2.1, hS, hw.2.2.2⟩
theorem r_cvv {o ci len N h' maxL index nA : Nat} {C : String} {T : u_T} {y : MethodName} {bytes : ByteArray} {rt : Option FieldType} {q : Option (Int × mMem)} {k9 : Int → mMem → Option (Int × mMem)} {z : Int × mMem} (As : List Value) (X : mCx p m c cc nL s args own meth D cy ret) (hw : mWd D cy ad bs true mN σ s.heap H locs) (hM : ∀ (r : Int) (σ' : mMem), q = some (r, σ') → mCv l D cy ad bs y bytes maxL rt h' (.ref (ad o) :: As) σ σ') (hs : mSh o = (ci, len)) (hc : vwCl[ci]? = some (C, T, N)) (h13 : ci < 13) (hyC : y.cls = C) (K : mKm y bytes maxL rt nA) (V : mKv y) (hlk : Cond.methodLink own index y ∈ lw_g) (hdg : decode cc pc = .ok (.invokevirtual index, 3)) (hsz : ls.size = nL) (hst : st = As.reverse ++ .ref (ad o) :: rest) (hn : As.length = nA) (hcat : (rest.map fun v => v.category).sum ≤ 8) (hR : h' + 1 ≤ R.frames ∧ 8 + (maxL + 11) + 64 * h' ≤ R.locals) (hRc : cells ≤ R.cells ∧ slots ≤ R.slots) (hf : mob q k9 = some z)
    (kk : ∀ (r : Int) (σ' : mMem), q = some (r, σ') → k9 r σ' = some z → ∀ (H1 : Heap) (locs1 : List Loc), mWd D cy ad bs true mN σ' s.heap H1 locs1 → W p l e R s m args below meth c H1 locs1 cells slots Q (F0 m (pc + 3) ls rest)) : W p l e R s m args below meth c H locs cells slots Q (F0 m pc ls st) := by
  obtain ⟨r, σ', hq, hf2⟩ := mob_some hf
  obtain ⟨⟨hx, hb, hml, hown, hts⟩, hK, -⟩ := id X
  obtain ⟨k1, k2, k3, k4, k5, k6⟩ := K
  subst hyC
  have hrec := va_recv hK hw.1 hc (show (mWs cy ad true mN σ)[o]? = some (ad o, .inr (ci, mFs ad true (σ o) ci o)) by rw [mWs_at (mSh_lt hs (by omega)), mCell_o hs h13])
  refine va_callv (va_runV (As := As) (rest := rest) ⟨hx, hb, hml, hown, hts⟩ (hM r σ' hq) ⟨callB_of nA hts (lw_g_good k1) rfl rfl rfl (hts _ k2) (hts _ hlk) ⟨k3, k4, k5⟩ hR, hts _ V.1, hts _ V.2⟩ ⟨mSW.blind, hrec, fun U hU hW => ⟨rfl, hw.SW hK hU hW.alike⟩⟩ rfl hn hsz hst (lv_room hcat) hdg hRc) hw.2.2.1 (fun _ _ h => h) (fun _ h => h) (fun u t H1 locs1 ht hvm hpost hB hz hk hS => ?_)
  subst hpost
  exact kk r _ hq hf2 H1 locs1 ⟨by rw [← ht]; exact hB.1, hB.2.2.1, hS, hw.2.2.2⟩
theorem r_csv {h' maxL index nA : Nat} {y : MethodName} {bytes : ByteArray} {rt : Option FieldType} {q : Option (Int × mMem)} {k9 : Int → mMem → Option (Int × mMem)} {z : Int × mMem} (As : List Value) (X : mCx p m c cc nL s args own meth D cy ret) (hw : mWd D cy ad bs true mN σ s.heap H locs) (hM : ∀ (r : Int) (σ' : mMem), q = some (r, σ') → mCv l D cy ad bs y bytes maxL rt h' As σ σ') (K : mKm y bytes maxL rt nA) (V : Cond.static y ∈ lw_g) (hlk : Cond.methodLink own index y ∈ lw_g) (hdg : decode cc pc = .ok (.invokestatic index, 3)) (hsz : ls.size = nL) (hst : st = As.reverse ++ rest) (hn : As.length = nA) (hcat : (rest.map fun v => v.category).sum ≤ 8) (hR : h' + 1 ≤ R.frames ∧ 8 + (maxL + 11) + 64 * h' ≤ R.locals) (hRc : cells ≤ R.cells ∧ slots ≤ R.slots) (hf : mob q k9 = some z)
    (kk : ∀ (r : Int) (σ' : mMem), q = some (r, σ') → k9 r σ' = some z → ∀ (H1 : Heap) (locs1 : List Loc), mWd D cy ad bs true mN σ' s.heap H1 locs1 → W p l e R s m args below meth c H1 locs1 cells slots Q (F0 m (pc + 3) ls rest)) : W p l e R s m args below meth c H locs cells slots Q (F0 m pc ls st) := by
  obtain ⟨r, σ', hq, hf2⟩ := mob_some hf
  obtain ⟨⟨hx, hb, hml, hown, hts⟩, hK, -⟩ := id X
  obtain ⟨k1, k2, k3, k4, k5, k6⟩ := K
  refine va_callv (va_runS (As := As) (rest := rest) ⟨hx, hb, hml, hown, hts⟩ (hM r σ' hq) ⟨callB_of nA hts (lw_g_good k1) rfl rfl rfl (hts _ k2) (hts _ hlk) ⟨k3, k4, k5⟩ hR, hts _ V⟩ ⟨mSW.blind, fun U hU hW => ⟨rfl, hw.SW hK hU hW.alike⟩⟩ rfl hn hsz hst (lv_room hcat) hdg hRc) hw.2.2.1 (fun _ _ h => h) (fun _ h => h) (fun u t H1 locs1 ht hvm hpost hB hz hk hS => ?_)
  subst hpost
  exact kk r _ hq hf2 H1 locs1 ⟨by rw [← ht]; exact hB.1, hB.2.2.1, hS, hw.2.2.2⟩
theorem mCi.of {y : MethodName} {bytes : ByteArray} {maxL h : Nat} {As : List Value} {r : Int} {σ' : mMem} {lv : List (Nat × Value)} (hy : plainFor y = true) (hlen : (lg_sl As).length ≤ maxL) (hlv : lv_args 0 As = lv)
    (body : ∀ (p : Program) (e : Env) (s : State) (m : MethodId) (args : Array Value) (below : List Frame) (meth : Method) (c : Code) (H : Heap) (locs : List Loc) (ls : Array Slot), mCx p m c bytes maxL s args y.cls meth D cy ret → mWd D cy ad bs true mN σ s.heap H locs → lv_has ls maxL lv →
      W p l e (mRm h) s m args below meth c H locs 0 0 (MQ below (mQi D cy ad bs r σ') args s 0 0 (mA bs)) (F0 m 0 ls [])) : mCi l D cy ad bs y bytes maxL ret h As σ r σ' := by
  refine mMet_of (cc := bytes) (maxL := maxL) (ret := ret) hy rfl ?_
  intro p e s m args below meth c s₁ B hml hv
  obtain ⟨ha, hP, hK, hD, hbs⟩ := hv
  subst ha
  subst hlv
  have hts0 : ∀ w ∈ (Cond.code y bytes maxL ret :: lw_g), w.before As.toArray s = true := atoms_spec (ws := Cond.code y bytes maxL ret :: lw_g) B.pre
  have hl := lv_entry As (n := maxL) hlen
  rw [lg_entry_eq]
  generalize (lg_sl As ++ List.replicate (maxL - (lg_sl As).length) Slot.unset).toArray = ls at hl ⊢
  exact body p e s m As.toArray below meth c s.heap [] ls ⟨⟨B.exec, B.bytes, hml, findClass_of_methodNamed B.named, fun w hw => hts0 w (List.mem_cons_of_mem _ hw)⟩, hK, B.notSynchronized, B.returns⟩ ⟨hP, hD, va_S.rf, hbs⟩ hl
theorem mCl.of {y : MethodName} {bytes : ByteArray} {maxL h : Nat} {As : List Value} {r : Int} {σ' : mMem} {lv : List (Nat × Value)} (hy : plainFor y = true) (hlen : (lg_sl As).length ≤ maxL) (hlv : lv_args 0 As = lv)
    (body : ∀ (p : Program) (e : Env) (s : State) (m : MethodId) (args : Array Value) (below : List Frame) (meth : Method) (c : Code) (H : Heap) (locs : List Loc) (ls : Array Slot), mCx p m c bytes maxL s args y.cls meth D cy ret → mWd D cy ad bs true mN σ s.heap H locs → lv_has ls maxL lv →
      W p l e (mRm h) s m args below meth c H locs 0 0 (MQ below (mQl D cy ad bs r σ') args s 0 0 (mA bs)) (F0 m 0 ls [])) : mCl l D cy ad bs y bytes maxL ret h As σ r σ' := by
  refine mMet_of (cc := bytes) (maxL := maxL) (ret := ret) hy rfl ?_
  intro p e s m args below meth c s₁ B hml hv
  obtain ⟨ha, hP, hK, hD, hbs⟩ := hv
  subst ha
  subst hlv
  have hts0 : ∀ w ∈ (Cond.code y bytes maxL ret :: lw_g), w.before As.toArray s = true := atoms_spec (ws := Cond.code y bytes maxL ret :: lw_g) B.pre
  have hl := lv_entry As (n := maxL) hlen
  rw [lg_entry_eq]
  generalize (lg_sl As ++ List.replicate (maxL - (lg_sl As).length) Slot.unset).toArray = ls at hl ⊢
  exact body p e s m As.toArray below meth c s.heap [] ls ⟨⟨B.exec, B.bytes, hml, findClass_of_methodNamed B.named, fun w hw => hts0 w (List.mem_cons_of_mem _ hw)⟩, hK, B.notSynchronized, B.returns⟩ ⟨hP, hD, va_S.rf, hbs⟩ hl
theorem mCv.of {y : MethodName} {bytes : ByteArray} {maxL h : Nat} {As : List Value} {σ' : mMem} {lv : List (Nat × Value)} (hy : plainFor y = true) (hlen : (lg_sl As).length ≤ maxL) (hlv : lv_args 0 As = lv)
    (body : ∀ (p : Program) (e : Env) (s : State) (m : MethodId) (args : Array Value) (below : List Frame) (meth : Method) (c : Code) (H : Heap) (locs : List Loc) (ls : Array Slot), mCx p m c bytes maxL s args y.cls meth D cy ret → mWd D cy ad bs true mN σ s.heap H locs → lv_has ls maxL lv →
      W p l e (mRm h) s m args below meth c H locs 0 0 (MQ below (mQv D cy ad bs σ') args s 0 0 (mA bs)) (F0 m 0 ls [])) : mCv l D cy ad bs y bytes maxL ret h As σ σ' := by
  refine mMet_of (cc := bytes) (maxL := maxL) (ret := ret) hy rfl ?_
  intro p e s m args below meth c s₁ B hml hv
  obtain ⟨ha, hP, hK, hD, hbs⟩ := hv
  subst ha
  subst hlv
  have hts0 : ∀ w ∈ (Cond.code y bytes maxL ret :: lw_g), w.before As.toArray s = true := atoms_spec (ws := Cond.code y bytes maxL ret :: lw_g) B.pre
  have hl := lv_entry As (n := maxL) hlen
  rw [lg_entry_eq]
  generalize (lg_sl As ++ List.replicate (maxL - (lg_sl As).length) Slot.unset).toArray = ls at hl ⊢
  exact body p e s m As.toArray below meth c s.heap [] ls ⟨⟨B.exec, B.bytes, hml, findClass_of_methodNamed B.named, fun w hw => hts0 w (List.mem_cons_of_mem _ hw)⟩, hK, B.notSynchronized, B.returns⟩ ⟨hP, hD, va_S.rf, hbs⟩ hl
end MC
