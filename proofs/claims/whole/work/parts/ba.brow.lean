/-! LAYER 1: while the objects are made: worlds, contracts, rows -/
def mAd (bs : Nat) : Nat → Nat := fun q => bs + q
/-- a new object: numbers 0, references none -/
def mNew (ci : Nat) : Nat → Int := fun k => if 2 ≤ (mFt ci).getD k 0 then -1 else 0
def mZr : Nat → Int := fun _ => 0
def mTxt : String := "floor by grey box at way eyes apart ahead bias steers goes power lamp cat left right mid lost step turned if or and not all min max "
/-- its bytes -/
def mTx : List Int32 := [102, 108, 111, 111, 114, 32, 98, 121, 32, 103, 114, 101, 121, 32, 98, 111, 120, 32, 97, 116, 32, 119, 97, 121, 32, 101, 121, 101, 115, 32, 97, 112, 97, 114, 116, 32, 97, 104, 101, 97, 100, 32, 98, 105, 97, 115, 32, 115, 116, 101, 101, 114, 115, 32, 103, 111, 101, 115, 32, 112, 111, 119, 101, 114, 32, 108, 97, 109, 112, 32, 99, 97, 116, 32, 108, 101, 102, 116, 32, 114, 105, 103, 104, 116, 32, 109, 105, 100, 32, 108, 111, 115, 116, 32, 115, 116, 101, 112, 32, 116, 117, 114, 110, 101, 100, 32, 105, 102, 32, 111, 114, 32, 97, 110, 100, 32, 110, 111, 116, 32, 97, 108, 108, 32, 109, 105, 110, 32, 109, 97, 120, 32]
/-- what stands ahead of the law: the text, where it is told how texts are kept -/
def mSx (bs qs qv : Nat) (qf : Option Nat) (U : State) (H : Heap) : Prop := va_Z RJ0 "COMPACT_STRINGS" "Z" (.int 1) (mA bs) U H ∧ va_Z RJ3 "SIOOBE_FORMATTER" "Ljava/util/function/BiFunction;" (va_rf qf) (mA bs) U H ∧ va_O RJ0 qs (mA bs) U H ∧ va_OF RJ0 "coder" "B" (.int 0) qs (mA bs) U H ∧ va_OF RJ0 "value" "[B" (.ref qv) qs (mA bs) U H ∧ va_T .byte qv 132 (fun j => .int (mTx.getD j 0)) (mA bs) U H
/-- the kinds of the arrays of ints, of rows of ints -/
def mKd (cy : Nat → ClassId) (U : State) : Prop := (∃ (k : Class) (cc0 : ClassId), U.vm.classes[cy 0]? = some k ∧ k.kind = .array cc0 .int) ∧ ∃ k : Class, U.vm.classes[cy 3]? = some k ∧ k.kind = .array (cy 0) (.array .int)
def mEx (cy : Nat → ClassId) (bs qs qv : Nat) (qf : Option Nat) (U : State) (H : Heap) : Prop := va_Nw (.methodLinkNest RX11 9 yX7_init RX11) U ∧ va_Nw (.methodLinkNest RX10 23 yX2_init RX11) U ∧ vk_R RX8 30 mTxt qs U ∧ mKd cy U ∧ mSx bs qs qv qf U H
theorem mSx.go {bs qs qv : Nat} {qf : Option Nat} {s U : State} {H H1 : Heap} (h : mSx bs qs qv qf s H) (hvm : s.vm.Alike U.vm) (hq : ∀ a : Nat, a < H.size → ¬ mA bs a → H1[a]? = H[a]?) : mSx bs qs qv qf U H1 := by
  obtain ⟨h1, h2, h3, h4, h5, h6⟩ := h
  exact ⟨(h1.kept hq).moved hvm, (h2.kept hq).moved hvm, (h3.kept hq).moved hvm, (h4.kept hq).moved hvm, (h5.kept hq).moved hvm, (h6.kept hq).moved hvm⟩
theorem mKd.moved {cy : Nat → ClassId} {s U : State} (hvm : s.vm.Alike U.vm) (h : mKd cy s) : mKd cy U := by
  obtain ⟨⟨k, cc0, h1, h2⟩, k3, h3, h4⟩ := h
  obtain ⟨k', e1, e2⟩ := hvm.2.2 _ _ h1
  obtain ⟨k3', e3, e4⟩ := hvm.2.2 _ _ h3
  exact ⟨⟨k', cc0, e1, by rw [e2]; exact h2⟩, k3', e3, by rw [e4]; exact h4⟩
theorem mEx.go {cy : Nat → ClassId} {bs qs qv : Nat} {qf : Option Nat} {s U : State} {H H1 : Heap} (h : mEx cy bs qs qv qf s H) (hW : s.WarmedH U.vm) (hq : ∀ a : Nat, a < H.size → ¬ mA bs a → H1[a]? = H[a]?) : mEx cy bs qs qv qf U H1 := by
  obtain ⟨h1, h2, h3, h4, h5⟩ := h
  exact ⟨va_Nw.warmM hW h1, va_Nw.warmM hW h2, h3.warm hW, h4.moved hW.alike, h5.go hW.alike hq⟩
theorem mEx.same {cy : Nat → ClassId} {bs qs qv : Nat} {qf : Option Nat} {s U : State} {H : Heap} (h : mEx cy bs qs qv qf s H) (hv : U.vm = s.vm) : mEx cy bs qs qv qf U H := by
  obtain ⟨h1, h2, h3, h4, h5⟩ := h
  have ha : s.vm.Alike U.vm := by rw [hv]; exact Vm.Alike.refl _
  exact ⟨va_Nw.same rfl hv.symm h1, va_Nw.same rfl hv.symm h2, h3.same hv, h4.moved ha, h5.go ha (fun _ _ _ => rfl)⟩
/-- the world of the first n objects, on the heap -/
def mWb (D : va_G) (cy : Nat → ClassId) (bs n : Nat) (σ : mMem) (H0 H : Heap) (locs : List Loc) : Prop := mWd D cy (mAd bs) bs false n σ H0 H locs ∧ H.size = bs + n
def mSB (D : va_G) (cy : Nat → ClassId) (bs qs qv : Nat) (qf : Option Nat) (n : Nat) (σ : mMem) (U : State) : Prop := (mSW D cy (mAd bs) bs false n σ U ∧ U.heap.size = bs + n) ∧ mEx cy bs qs qv qf U U.heap
theorem mSB.blind {D : va_G} {cy : Nat → ClassId} {bs qs qv n : Nat} {qf : Option Nat} {σ : mMem} {As : List Value} : FrameBlind (va_Pc As (mSB D cy bs qs qv qf n σ)) := fun a U g mk q => ⟨q.1, ⟨⟨q.2.1.1.1, va_K.moved (u := U) (U := U.calling g mk a) (Vm.Alike.refl U.vm) q.2.1.1.2.1, q.2.1.1.2.2.1, q.2.1.1.2.2.2⟩, q.2.1.2⟩, mEx.same (s := U) (U := U.calling g mk a) q.2.2 rfl⟩
def mCb (p : Program) (m : MethodId) (c : Code) (cc : ByteArray) (nL : Nat) (s : State) (args : Array Value) (own : String) (meth : Method) (D : va_G) (cy : Nat → ClassId) (ret : Option FieldType) (bs qs qv : Nat) (qf : Option Nat) : Prop := mCx p m c cc nL s args own meth D cy ret ∧ mEx cy bs qs qv qf s s.heap
def mQb (D : va_G) (cy : Nat → ClassId) (bs n : Nat) (σ : mMem) : Array Value → State → Outcome → State → Prop := va_Qv (fun u : mMem => u = σ) (fun u U => mSW D cy (mAd bs) bs false n u U ∧ U.heap.size = bs + n) (mA bs)
def mRmb (h mc ms : Nat) : Room := { frames := h, cells := mc, slots := ms, locals := 64 * h }
/-- a contract: n objects stand, n' stand behind it -/
def mBv (l : Launch) (D : va_G) (cy : Nat → ClassId) (bs qs qv : Nat) (qf : Option Nat) (y : MethodName) (bytes : ByteArray) (maxL h mc ms : Nat) (As : List Value) (n : Nat) (σ : mMem) (n' : Nat) (σ' : mMem) : Prop :=
  Met l y (.code y bytes maxL none :: lw_g) (mRmb h mc ms) (va_Pc As (mSB D cy bs qs qv qf n σ)) (mQb D cy bs n' σ') mc ms (mA bs)
/-- a call that changes nothing, of a method that asks E -/
def mPi (l : Launch) (E : State → Prop) (y : MethodName) (bytes : ByteArray) (maxL : Nat) (ret : Option FieldType) (h : Nat) (As : List Value) (sz : Nat) (r : Int32) : Prop :=
  Met l y (.code y bytes maxL ret :: lw_g) (mRm h) (va_Pc As (fun U => E U ∧ U.heap.size = sz)) (va_Qi (fun v (_ : Unit) => v = r) (fun _ U => U.heap.size = sz) (fun _ => False)) 0 0 (fun _ => False)
section MB
variable {p : Program} {l : Launch} {e : Env} {R : Room} {s : State} {m : MethodId} {args : Array Value} {below : List Frame} {meth : Method} {c : Code} {H : Heap} {locs : List Loc} {cells slots : Nat} {Q : State → Prop}
variable {cc : ByteArray} {pc nL bs n qs qv : Nat} {qf : Option Nat} {ls : Array Slot} {rest st : List Value} {D : va_G} {cy : Nat → ClassId} {σ : mMem} {own : String} {ret : Option FieldType}
theorem mBv.of {y : MethodName} {bytes : ByteArray} {maxL h mc ms n' : Nat} {As : List Value} {σ' : mMem} {lv : List (Nat × Value)} (hy : plainFor y = true) (hlen : (lg_sl As).length ≤ maxL) (hlv : lv_args 0 As = lv)
    (body : ∀ (p : Program) (e : Env) (s : State) (m : MethodId) (args : Array Value) (below : List Frame) (meth : Method) (c : Code) (H : Heap) (locs : List Loc) (ls : Array Slot), mCb p m c bytes maxL s args y.cls meth D cy none bs qs qv qf → meth.name = y.name → mWb D cy bs n σ s.heap H locs → lv_has ls maxL lv →
      W p l e (mRmb h mc ms) s m args below meth c H locs 0 0 (MQ below (mQb D cy bs n' σ') args s mc ms (mA bs)) (F0 m 0 ls [])) : mBv l D cy bs qs qv qf y bytes maxL h mc ms As n σ n' σ' := by
  refine mMet_of (cc := bytes) (maxL := maxL) (ret := none) hy rfl ?_
  intro p e s m args below meth c s₁ B hml hv
  obtain ⟨ha, ⟨⟨hP, hK, hD, hbs⟩, hsz⟩, hE⟩ := hv
  subst ha
  subst hlv
  have hts0 : ∀ w ∈ (Cond.code y bytes maxL none :: lw_g), w.before As.toArray s = true := atoms_spec (ws := Cond.code y bytes maxL none :: lw_g) B.pre
  have hl := lv_entry As (n := maxL) hlen
  rw [lg_entry_eq]
  generalize (lg_sl As ++ List.replicate (maxL - (lg_sl As).length) Slot.unset).toArray = ls at hl ⊢
  exact body p e s m As.toArray below meth c s.heap [] ls ⟨⟨⟨B.exec, B.bytes, hml, findClass_of_methodNamed B.named, fun w hw => hts0 w (List.mem_cons_of_mem _ hw)⟩, hK, B.notSynchronized, B.returns⟩, hE⟩ (name_of_methodNamed B.named B.method).1 ⟨⟨hP, hD, va_S.rf, hbs⟩, hsz⟩ hl
theorem mWb.old {H0 : Heap} (hw : mWb D cy bs n σ H0 H locs) : ∀ a : Nat, a < H0.size → ¬ mA bs a → H[a]? = H0[a]? := fun a h1 h2 => hw.1.2.2.1.2.1 a h1 h2
theorem rb_vret {r : Int} {mc ms n' : Nat} {σ' : mMem} (B : mCb p m c cc nL s args own meth D cy none bs qs qv qf) (hw : mWb D cy bs n σ s.heap H locs) (hdg : decode cc pc = .ok (.return_, 1)) (hn : n = n') (hc : cells ≤ mc) (hs : slots ≤ ms) (hf : some ((0 : Int), σ) = some (r, σ')) : W p l e R s m args below meth c H locs cells slots (MQ below (mQb D cy bs n' σ') args s mc ms (mA bs)) (F0 m pc ls []) := by
  cases hf
  subst hn
  obtain ⟨⟨⟨hx, hb, -, -, -⟩, hK, hlk, hr⟩, -⟩ := B
  refine W.widen (k := mc) (n := ms) hc hs ?_
  exact W.vret hx hb hr (fun t ht hW => ⟨⟨σ, rfl, rfl, hw.1.SW hK ht hW.alike, by rw [ht]; exact hw.2⟩, hw.1.F ht⟩) hw.1.2.2.1.2.2 hdg hlk
theorem rb_mem {k : mMem → mRs} {w : Int × mMem} {g : JFrame} (hf : mlm σ k = some w) (hw : mWb D cy bs n σ s.heap H locs) (kk : ∀ τ : mMem, mWb D cy bs n τ s.heap H locs → k τ = some w → W p l e R s m args below meth c H locs cells slots Q g) : W p l e R s m args below meth c H locs cells slots Q g := kk σ hw hf
theorem mWs_push (ad : Nat → Nat) (r : Nat → Int) : mWs cy ad false (n + 1) (mupo σ n r) = mWs cy ad false n σ ++ [(ad n, mCell cy ad false r n)] := by
  unfold mWs
  rw [List.range_succ, List.map_append]
  congr 1
  · apply List.map_congr_left
    intro o ho
    have := List.mem_range.mp ho
    simp [mupo, show ¬ o = n by omega]
  · simp [mupo]
/-- one object more -/
theorem mWb.push {H1 : Heap} {r : Nat → Int} {H0 : Heap} (hw : mWb D cy bs n σ H0 H locs) (z1 : H1.size = bs + n + 1) (o1 : ∀ q, q < bs + n → H1[q]? = H[q]?) (hat : va_at D vwCl (mAd bs n, mCell cy (mAd bs) false r n) H1) : mWb D cy bs (n + 1) (mupo σ n r) H0 H1 locs := by
  obtain ⟨⟨hP, hD, hS, hbs⟩, hsz⟩ := hw
  have hk : ∀ (k : Nat) (x : Nat × va_E), (mWs cy (mAd bs) false n σ)[k]? = some x → H1[x.1]? = H[x.1]? := fun k x hx => o1 x.1 (by have := (hP k x hx).lt; omega)
  refine ⟨⟨?_, ?_, ⟨by have := hS.1; omega, fun x h1 h2 => (o1 x (by have := hS.1; omega)).trans (hS.2.1 x h1 h2), hS.2.2⟩, hbs⟩, by omega⟩
  · rw [mWs_push]
    refine (hP.kept hk).app (fun k x hx => ?_)
    have hz : k < 1 := (List.getElem?_eq_some_iff.mp hx).1
    rw [show k = 0 by omega] at hx
    cases hx
    exact hat
  · rw [mWs_push]
    exact hD.push hP (show bs + n = H.size by omega) (show bs ≤ bs + n by omega)
theorem rb_new {ci N index len : Nat} {C : String} {T : u_T} {ty0 : Nat → FieldType} (B : mCb p m c cc nL s args own meth D cy ret bs qs qv qf) (hw : mWb D cy bs n σ s.heap H locs) (hs : mSh n = (ci, len)) (h13 : ci < 13) (hc : vwCl[ci]? = some (C, T, N)) (hin : ∀ w ∈ u_ws C T N, w ∈ lw_g) (hty : ∀ k, k < N → parseFieldDescriptor (T k).2.2.1 = some (ty0 k)) (hd : ∀ j, j < N → defaultValue (ty0 j) = vp_V (mFs (mAd bs) false (mNew ci) ci n) j) (hcl : Cond.classLink own index C ∈ lw_g) (hinst : Cond.instantiable C N ∈ lw_g) (hini : Cond.initialized C ∈ lw_g) (hcells : cells + 1 ≤ R.cells) (hslots : slots + N ≤ R.slots) (hdg : decode cc pc = .ok (.new index, 3))
    (kk : ∀ H1 : Heap, mWb D cy bs (n + 1) (mupo σ n (mNew ci)) s.heap H1 locs → W p l e R s m args below meth c H1 locs (cells + 1) (slots + N) Q (F0 m (pc + 3) ls (.ref (mAd bs n) :: rest))) : W p l e R s m args below meth c H locs cells slots Q (F0 m pc ls rest) := by
  obtain ⟨⟨⟨hx, hb, -, hown, hts⟩, hK, -⟩, -⟩ := B
  have hKn := hK.1 ci _ hc
  refine W.newcK hx hb hown (hts _ hcl) (hts _ hinst) (hts _ hini) rfl hdg hcells hslots hKn.2.1 hw.2 (fun H1 kC hkC e1 z1 o1 => ?_)
  refine kk H1 (hw.push z1 o1 ?_)
  rw [mCell_o hs h13]
  exact ⟨_, hc, (u_born ty0 hts hin hKn hkC e1 hty).to hd⟩
theorem rb_newa {atype : ArrayType} {cT : ClassId} {a0 : vp_A} {len : Nat} {z : Int32} (B : mCb p m c cc nL s args own meth D cy ret bs qs qv qf) (hw : mWb D cy bs n σ s.heap H locs) (hcl : Cond.arrayClass (newarray.typeOf atype) ∈ lw_g) (hRA : s.vm.findClass ("[" ++ (newarray.typeOf atype).toString) = some cT) (hm : mCell cy (mAd bs) false mZr n = .inl (cT, a0)) (ha : vp_cell cT a0 = arrV cT len (fun _ => defaultValue (newarray.typeOf atype))) (hn : ¬ z < 0) (hN : z.toNatClampNeg = len) (hbytes : len * componentBytes (newarray.typeOf atype) ≤ 536870912) (hcells : cells + 1 ≤ R.cells) (hslots : slots + len ≤ R.slots) (hdg : decode cc pc = .ok (.newarray atype, 2))
    (kk : ∀ H1 : Heap, mWb D cy bs (n + 1) (mupo σ n mZr) s.heap H1 locs → W p l e R s m args below meth c H1 locs (cells + 1) (slots + len) Q (F0 m (pc + 2) ls (.ref (mAd bs n) :: rest))) : W p l e R s m args below meth c H locs cells slots Q (F0 m pc ls (.int z :: rest)) := by
  obtain ⟨⟨⟨hx, hb, -, hown, hts⟩, hK, -⟩, -⟩ := B
  refine va_newaK hx hb (hts _ hcl) rfl hdg rfl hn hN hbytes hcells hslots hw.2 (fun H1 cA e1 z1 o1 _ hNm => ?_)
  cases hRA.symm.trans hNm
  refine kk H1 (hw.push z1 o1 ?_)
  rw [hm]
  show H1[mAd bs n]? = some (vp_cell _ _)
  rw [ha]
  exact e1
theorem mWb.ra {k : Nat} {ty : FieldType} (hK : va_K D vwCl (mtys cy) s) (h : (mtys cy)[k]? = some (cy k, ty)) : va_RA s (cy k) ty := (hK.2 k _ h).2
theorem rb_newi {len : Nat} {z : Int} (B : mCb p m c cc nL s args own meth D cy ret bs qs qv qf) (hw : mWb D cy bs n σ s.heap H locs) (hs : mSh n = (13, len)) (hz : z = (len : Int)) (hl : len ≤ 10000) (hcells : cells + 1 ≤ R.cells) (hslots : slots + len ≤ R.slots) (hdg : decode cc pc = .ok (.newarray .int, 2))
    (kk : ∀ H1 : Heap, mWb D cy bs (n + 1) (mupo σ n mZr) s.heap H1 locs → W p l e R s m args below meth c H1 locs (cells + 1) (slots + len) Q (F0 m (pc + 2) ls (.ref (mAd bs n) :: rest))) : W p l e R s m args below meth c H locs cells slots Q (F0 m pc ls (.int (mI z) :: rest)) := by
  subst hz
  have t : (mI (len : Int)).toInt = (len : Int) := by rw [mI_toInt, mw_id (by omega) (by omega)]
  refine rb_newa (atype := .int) (cT := cy 0) (a0 := (len, .inl (fun j => mI (mZr j)))) B hw ka_int (mWb.ra (k := 0) B.1.2.1 rfl) (mCell_i hs) rfl (fun q => ?_) ?_ (by show len * 4 ≤ _; omega) hcells hslots hdg kk
  · have := Int32.lt_iff_toInt_lt.mp q
    rw [t] at this
    have h0 : (0 : Int32).toInt = 0 := by decide
    omega
  · show (mI (len : Int)).toInt.toNat = len
    rw [t]
    omega
theorem rb_newl {len : Nat} {z : Int} (B : mCb p m c cc nL s args own meth D cy ret bs qs qv qf) (hw : mWb D cy bs n σ s.heap H locs) (hs : mSh n = (14, len)) (hz : z = (len : Int)) (hl : len ≤ 10000) (hcells : cells + 1 ≤ R.cells) (hslots : slots + len ≤ R.slots) (hdg : decode cc pc = .ok (.newarray .long, 2))
    (kk : ∀ H1 : Heap, mWb D cy bs (n + 1) (mupo σ n mZr) s.heap H1 locs → W p l e R s m args below meth c H1 locs (cells + 1) (slots + len) Q (F0 m (pc + 2) ls (.ref (mAd bs n) :: rest))) : W p l e R s m args below meth c H locs cells slots Q (F0 m pc ls (.int (mI z) :: rest)) := by
  subst hz
  have t : (mI (len : Int)).toInt = (len : Int) := by rw [mI_toInt, mw_id (by omega) (by omega)]
  refine rb_newa (atype := .long) (cT := cy 1) (a0 := (len, .inr (.inl (fun j => mL (mZr j))))) B hw ka_long (mWb.ra (k := 1) B.1.2.1 rfl) (mCell_l hs) rfl (fun q => ?_) ?_ (by show len * 8 ≤ _; omega) hcells hslots hdg kk
  · have := Int32.lt_iff_toInt_lt.mp q
    rw [t] at this
    have h0 : (0 : Int32).toInt = 0 := by decide
    omega
  · show (mI (len : Int)).toInt.toNat = len
    rw [t]
    omega
theorem rb_newz {len : Nat} {z : Int} (B : mCb p m c cc nL s args own meth D cy ret bs qs qv qf) (hw : mWb D cy bs n σ s.heap H locs) (hs : mSh n = (15, len)) (hz : z = (len : Int)) (hl : len ≤ 10000) (hcells : cells + 1 ≤ R.cells) (hslots : slots + len ≤ R.slots) (hdg : decode cc pc = .ok (.newarray .boolean, 2))
    (kk : ∀ H1 : Heap, mWb D cy bs (n + 1) (mupo σ n mZr) s.heap H1 locs → W p l e R s m args below meth c H1 locs (cells + 1) (slots + len) Q (F0 m (pc + 2) ls (.ref (mAd bs n) :: rest))) : W p l e R s m args below meth c H locs cells slots Q (F0 m pc ls (.int (mI z) :: rest)) := by
  subst hz
  have t : (mI (len : Int)).toInt = (len : Int) := by rw [mI_toInt, mw_id (by omega) (by omega)]
  refine rb_newa (atype := .boolean) (cT := cy 2) (a0 := (len, .inl (fun j => mI (mZr j)))) B hw ka_boolean (mWb.ra (k := 2) B.1.2.1 rfl) (mCell_z hs) rfl (fun q => ?_) ?_ (by show len * 1 ≤ _; omega) hcells hslots hdg kk
  · have := Int32.lt_iff_toInt_lt.mp q
    rw [t] at this
    have h0 : (0 : Int32).toInt = 0 := by decide
    omega
  · show (mI (len : Int)).toInt.toNat = len
    rw [t]
    omega
/-- a field of an object that stands; a final one in a constructor -/
theorem rb_put {o ci k index N len : Nat} {C : String} {T : u_T} {ty0 : Nat → FieldType} {v : Value} (z : Int) (B : mCb p m c cc nL s args own meth D cy ret bs qs qv qf) (hw : mWb D cy bs n σ s.heap H locs) (ho : o < n) (hs : mSh o = (ci, len)) (F : mFd ci k C T N) (hty : ∀ k, k < N → parseFieldDescriptor (T k).2.2.1 = some (ty0 k)) (hnm : ∀ a, a < N → ∀ b, b < N → a ≠ b → (T a).2.1 ≠ (T b).2.1) (hfin : (T k).2.2.2 = false ∨ ((T k).2.2.2 = true ∧ meth.name = "<init>" ∧ (T k).1 = own)) (hn : narrow (ty0 k) v = v) (hfit : fits (ty0 k) v = true) (hv : mFv (mAd bs) false (mup1 (σ o) k z) ci o k = v) (hlk : Cond.fieldLink own index (T k).1 (T k).2.1 (T k).2.2.1 ∈ lw_g) (hdg : decode cc pc = .ok (.putfield index, 3))
    (kk : ∀ (H1 : Heap) (locs1 : List Loc), mWb D cy bs n (mup σ o k z) s.heap H1 locs1 → W p l e R s m args below meth c H1 locs1 cells slots Q (F0 m (pc + 3) ls rest)) : W p l e R s m args below meth c H locs cells slots Q (F0 m pc ls (v :: .ref (mAd bs o) :: rest)) := by
  obtain ⟨⟨⟨hx, hb, -, hown, hts⟩, hK, -⟩, -⟩ := B
  obtain ⟨h1, h2, h3, h4, h5⟩ := F
  obtain ⟨⟨hP, hD, hS, hbs⟩, hsz⟩ := hw
  have hap := va_apart (own := own) hts h2 ty0 hty hnm hK h1
  have he : (mWs cy (mAd bs) false n σ)[o]? = some (mAd bs o, .inr (ci, mFs (mAd bs) false (σ o) ci o)) := by rw [mWs_at ho, mCell_o hs h5]
  obtain ⟨r, g1, cell, q1, q2, q3, q4⟩ := hP o _ he
  have hr : r = (C, T, N) := Option.some.inj (g1.symm.trans h1)
  subst hr
  obtain ⟨hSl, hfc, kC, hkC, hkind⟩ := hK.1 ci _ h1
  obtain ⟨cf, kf, fi, f, hi, hsl⟩ := hSl k h3
  have hlay := hts _ (h2 _ (u_in_lay h3))
  have hst := (u_facts hfc hkC (u_lays hts h2 h3) hi).1
  have fin : ∀ H' : Heap, H'[mAd bs o]? = some (cell.setSlot f.slot v) → H'.size = H.size → (∀ q, q ≠ mAd bs o → H'[q]? = H[q]?) → W p l e R s m args below meth c H' (locs ++ [⟨mAd bs o, f.slot⟩]) cells slots Q (F0 m (pc + 3) ls rest) := by
    intro H' e1 e2 e3
    rw [hsl] at e1 ⊢
    have a1 := hP.set hD he (e := .inr (ci, (mFs (mAd bs) false (σ o) ci o).set k v)) ⟨_, h1, t_OB.to (V := updV (vp_V (mFs (mAd bs) false (σ o) ci o)) k v) ⟨_, e1, q2, q3, t_set q4 hap h3 v⟩ (fun j _ => vp_updV_set (by rw [mFs_len]; exact h4) v j)⟩ e3
    have a2 := hD.set (e := .inr (ci, (mFs (mAd bs) false (σ o) ci o).set k v)) he
    have a3 := hS.put (k := D.2 ci k) e2 e3 (hD.2 o _ he)
    have e5 : (mWs cy (mAd bs) false n σ).set o (mAd bs o, .inr (ci, (mFs (mAd bs) false (σ o) ci o).set k v)) = mWs cy (mAd bs) false n (mup σ o k z) := by
      rw [← hv, mFs_set, ← mCell_o (cy := cy) (ad := mAd bs) (md := false) (r := mup1 (σ o) k z) hs h5]
      exact mWs_set (mup1 (σ o) k z)
    rw [e5] at a1 a2
    exact kk H' _ ⟨⟨a1, a2, a3, hbs⟩, by omega⟩
  unfold u_lay at hlay
  rcases hfin with hfin | ⟨hfin, hin2, hdecl⟩
  · rw [if_neg (by rw [hfin]; decide)] at hlay
    have h6 := u_store hfc hkC hkind hlay hi (hty k h3) hn hfit
    exact W.putK hx hb (f := f) ⟨hown, hts _ hlk, ⟨_, _, _, hi⟩, hst⟩ (by rw [q2]; exact h6) q1 q3 (by rw [hsl]; exact k2_hasslot (q4 k h3)) rfl rfl hdg fin
  · rw [if_pos hfin] at hlay
    have hcf : m.cls = cf := by
      obtain ⟨_, _, c', _, _, _, -, -, hf', -, -, -, hown2, -⟩ := Cond.laysFinal_spec hlay
      have e1 : c' = cf := by have := hi.symm.trans hf'; simp at this; exact this.1.symm
      rw [hdecl] at hown2
      rw [← e1]
      exact Option.some.inj (hown.symm.trans hown2)
    have h6 := u_fits hfc hkC hkind (Or.inr hlay) hi (hty k h3) hn hfit
    exact W.putFinK hx hb hown (hts _ hlk) hi hst hcf hin2 (by rw [q2]; exact h6) q1 q3 (by rw [hsl]; exact k2_hasslot (q4 k h3)) rfl rfl hdg fin
theorem rb_puti {o ci k index N len : Nat} {C : String} {T : u_T} {ty0 : Nat → FieldType} (z : Int) (B : mCb p m c cc nL s args own meth D cy ret bs qs qv qf) (hw : mWb D cy bs n σ s.heap H locs) (ho : o < n) (hs : mSh o = (ci, len)) (F : mFd ci k C T N) (P : mFp ci k T N ty0) (hft : (mFt ci).getD k 0 = 0) (hty : ty0 k = .int) (hlk : Cond.fieldLink own index (T k).1 (T k).2.1 (T k).2.2.1 ∈ lw_g) (hdg : decode cc pc = .ok (.putfield index, 3))
    (kk : ∀ (H1 : Heap) (locs1 : List Loc), mWb D cy bs n (mup σ o k z) s.heap H1 locs1 → W p l e R s m args below meth c H1 locs1 cells slots Q (F0 m (pc + 3) ls rest)) : W p l e R s m args below meth c H locs cells slots Q (F0 m pc ls (.int (mI z) :: .ref (mAd bs o) :: rest)) :=
  rb_put z B hw ho hs F P.1 P.2.1 (Or.inl P.2.2) (by rw [hty]; exact vp_nar_int _) (by rw [hty]; rfl) (by rw [mFv_i hft]; simp [mup1]) hlk hdg kk
theorem rb_putz {o ci k index N len : Nat} {C : String} {T : u_T} {ty0 : Nat → FieldType} (z : Int) (B : mCb p m c cc nL s args own meth D cy ret bs qs qv qf) (hw : mWb D cy bs n σ s.heap H locs) (ho : o < n) (hs : mSh o = (ci, len)) (F : mFd ci k C T N) (P : mFp ci k T N ty0) (hft : (mFt ci).getD k 0 = 0) (hty : ty0 k = .boolean) (h01 : mw z = 0 ∨ mw z = 1) (hlk : Cond.fieldLink own index (T k).1 (T k).2.1 (T k).2.2.1 ∈ lw_g) (hdg : decode cc pc = .ok (.putfield index, 3))
    (kk : ∀ (H1 : Heap) (locs1 : List Loc), mWb D cy bs n (mup σ o k z) s.heap H1 locs1 → W p l e R s m args below meth c H1 locs1 cells slots Q (F0 m (pc + 3) ls rest)) : W p l e R s m args below meth c H locs cells slots Q (F0 m pc ls (.int (mI z) :: .ref (mAd bs o) :: rest)) :=
  rb_put z B hw ho hs F P.1 P.2.1 (Or.inl P.2.2) (by rw [hty]; exact (mb01 h01).1) (by rw [hty]; exact (mb01 h01).2) (by rw [mFv_i hft]; simp [mup1]) hlk hdg kk
theorem rb_putl {o ci k index N len : Nat} {C : String} {T : u_T} {ty0 : Nat → FieldType} (z : Int) (B : mCb p m c cc nL s args own meth D cy ret bs qs qv qf) (hw : mWb D cy bs n σ s.heap H locs) (ho : o < n) (hs : mSh o = (ci, len)) (F : mFd ci k C T N) (P : mFp ci k T N ty0) (hft : (mFt ci).getD k 0 = 1) (hty : ty0 k = .long) (hlk : Cond.fieldLink own index (T k).1 (T k).2.1 (T k).2.2.1 ∈ lw_g) (hdg : decode cc pc = .ok (.putfield index, 3))
    (kk : ∀ (H1 : Heap) (locs1 : List Loc), mWb D cy bs n (mup σ o k z) s.heap H1 locs1 → W p l e R s m args below meth c H1 locs1 cells slots Q (F0 m (pc + 3) ls rest)) : W p l e R s m args below meth c H locs cells slots Q (F0 m pc ls (.long (mL z) :: .ref (mAd bs o) :: rest)) :=
  rb_put z B hw ho hs F P.1 P.2.1 (Or.inl P.2.2) (by rw [hty]; rfl) (by rw [hty]; rfl) (by rw [mFv_l hft]; simp [mup1]) hlk hdg kk
/-- what a field for references takes -/
def mRt (t : FieldType) : Prop := ∀ a : Nat, narrow t (.ref a) = .ref a ∧ fits t (.ref a) = true
theorem mRt_o (nm : String) : mRt (.object nm) := fun _ => ⟨rfl, rfl⟩
theorem mRt_a (t : FieldType) : mRt (.array t) := fun _ => ⟨rfl, rfl⟩
theorem mFv_b {r : Nat → Int} {ci o k q : Nat} (h : 2 ≤ (mFt ci).getD k 0) (hq : r k = (q : Int)) : mFv (mAd bs) false r ci o k = .ref (mAd bs q) := by
  rw [mFv_c h, hq]
  unfold mRf
  rw [if_neg (by omega), Int.toNat_natCast]
theorem rb_putF {o ci k index N len q : Nat} {C : String} {T : u_T} {ty0 : Nat → FieldType} (B : mCb p m c cc nL s args own meth D cy ret bs qs qv qf) (hin : meth.name = "<init>") (hw : mWb D cy bs n σ s.heap H locs) (ho : o < n) (hs : mSh o = (ci, len)) (F : mFd ci k C T N) (hty : ∀ k, k < N → parseFieldDescriptor (T k).2.2.1 = some (ty0 k)) (hnm : ∀ a, a < N → ∀ b, b < N → a ≠ b → (T a).2.1 ≠ (T b).2.1) (hfin : (T k).2.2.2 = true ∧ (T k).1 = own) (hft : 2 ≤ (mFt ci).getD k 0) (ht : mRt (ty0 k)) (hlk : Cond.fieldLink own index (T k).1 (T k).2.1 (T k).2.2.1 ∈ lw_g) (hdg : decode cc pc = .ok (.putfield index, 3))
    (kk : ∀ (H1 : Heap) (locs1 : List Loc), mWb D cy bs n (mup σ o k (q : Int)) s.heap H1 locs1 → W p l e R s m args below meth c H1 locs1 cells slots Q (F0 m (pc + 3) ls rest)) : W p l e R s m args below meth c H locs cells slots Q (F0 m pc ls (.ref (mAd bs q) :: .ref (mAd bs o) :: rest)) :=
  rb_put (q : Int) B hw ho hs F hty hnm (Or.inr ⟨hfin.1, hin, hfin.2⟩) (ht _).1 (ht _).2 (mFv_b hft (by simp [mup1])) hlk hdg kk
theorem rb_putR {o ci k index N len q : Nat} {C : String} {T : u_T} {ty0 : Nat → FieldType} (B : mCb p m c cc nL s args own meth D cy ret bs qs qv qf) (hw : mWb D cy bs n σ s.heap H locs) (ho : o < n) (hs : mSh o = (ci, len)) (F : mFd ci k C T N) (P : mFp ci k T N ty0) (hft : 2 ≤ (mFt ci).getD k 0) (ht : mRt (ty0 k)) (hlk : Cond.fieldLink own index (T k).1 (T k).2.1 (T k).2.2.1 ∈ lw_g) (hdg : decode cc pc = .ok (.putfield index, 3))
    (kk : ∀ (H1 : Heap) (locs1 : List Loc), mWb D cy bs n (mup σ o k (q : Int)) s.heap H1 locs1 → W p l e R s m args below meth c H1 locs1 cells slots Q (F0 m (pc + 3) ls rest)) : W p l e R s m args below meth c H locs cells slots Q (F0 m pc ls (.ref (mAd bs q) :: .ref (mAd bs o) :: rest)) :=
  rb_put (q : Int) B hw ho hs F P.1 P.2.1 (Or.inl P.2.2) (ht _).1 (ht _).2 (mFv_b hft (by simp [mup1])) hlk hdg kk
theorem rb_getr {o ci k index N len q : Nat} {C : String} {T : u_T} (B : mCb p m c cc nL s args own meth D cy ret bs qs qv qf) (hw : mWb D cy bs n σ s.heap H locs) (ho : o < n) (hs : mSh o = (ci, len)) (F : mFd ci k C T N) (hft : 2 ≤ (mFt ci).getD k 0) (hq : σ o k = (q : Int)) (hlk : Cond.fieldLink own index (T k).1 (T k).2.1 (T k).2.2.1 ∈ lw_g) (hdg : decode cc pc = .ok (.getfield index, 3))
    (kk : W p l e R s m args below meth c H locs cells slots Q (F0 m (pc + 3) ls (.ref (mAd bs q) :: rest))) : W p l e R s m args below meth c H locs cells slots Q (F0 m pc ls (.ref (mAd bs o) :: rest)) :=
  r_get B.1 hw.1 ho hs F hlk hdg (by rw [mFv_b hft hq]; exact kk)
theorem rb_iast {o len : Nat} {i z : Int} (B : mCb p m c cc nL s args own meth D cy ret bs qs qv qf) (hw : mWb D cy bs n σ s.heap H locs) (ho : o < n) (hs : mSh o = (13, len)) (h : 0 ≤ mw i ∧ mw i < (len : Int)) (hdg : decode cc pc = .ok (.iastore, 1))
    (kk : ∀ (H1 : Heap) (locs1 : List Loc), mWb D cy bs n (mup σ o (mw i).toNat z) s.heap H1 locs1 → W p l e R s m args below meth c H1 locs1 cells slots Q (F0 m (pc + 1) ls rest)) : W p l e R s m args below meth c H locs cells slots Q (F0 m pc ls (.int (mI z) :: .int (mI i) :: .ref (mAd bs o) :: rest)) := by
  obtain ⟨⟨⟨hx, hb, -, hown, hts⟩, hK, -⟩, -⟩ := B
  obtain ⟨⟨hP, hD, hS, hbs⟩, hsz⟩ := hw
  have hi := mI_in h
  have he : (mWs cy (mAd bs) false n σ)[o]? = some (mAd bs o, .inl (cy 0, len, .inl (fun j => mI (σ o j)))) := by rw [mWs_at ho, mCell_i hs]
  refine W.iast hx hb (hP o _ he) ((hK.2 0 _ rfl).1 len (fun j => .int (mI (σ o j)))) (fun q => by cases q) (by show ¬ (_ ∨ (arrV _ _ _).slots.size ≤ _); rw [arrV_size]; exact hi.1) rfl rfl hdg (fun H1 e1 e2 e3 => ?_)
  have a1 := hP.set hD he (e := .inl (cy 0, len, .inl (fun j => mI (mup1 (σ o) (mw i).toNat z j)))) (by
    show H1[mAd bs o]? = some (arrV (cy 0) len (fun j => .int (mI (mup1 (σ o) (mw i).toNat z j))))
    refine e1.trans ?_
    show some ((arrV (cy 0) len (fun j => .int (mI (σ o j)))).setSlot _ _) = _
    rw [arrV_store, hi.2]
    congr 2
    funext j
    unfold updV mup1
    by_cases hj : j = (mw i).toNat
    · rw [if_pos hj, if_pos hj]
    · rw [if_neg hj, if_neg hj]) e3
  have a2 := hD.set (e := .inl (cy 0, len, .inl (fun j => mI (mup1 (σ o) (mw i).toNat z j)))) he
  have a3 := hS.put (k := (mI i).toNatClampNeg) e2 e3 (hD.2 o _ he)
  rw [← mCell_i (cy := cy) (ad := mAd bs) (md := false) (r := mup1 (σ o) (mw i).toNat z) hs, mWs_set] at a1 a2
  exact kk H1 _ ⟨⟨a1, a2, a3, hbs⟩, by omega⟩
theorem rb_iald {o len : Nat} {i : Int} (B : mCb p m c cc nL s args own meth D cy ret bs qs qv qf) (hw : mWb D cy bs n σ s.heap H locs) (ho : o < n) (hs : mSh o = (13, len)) (h : 0 ≤ mw i ∧ mw i < (len : Int)) (hdg : decode cc pc = .ok (.iaload, 1))
    (kk : W p l e R s m args below meth c H locs cells slots Q (F0 m (pc + 1) ls (.int (mI (σ o (mw i).toNat)) :: rest))) : W p l e R s m args below meth c H locs cells slots Q (F0 m pc ls (.int (mI i) :: .ref (mAd bs o) :: rest)) := by
  obtain ⟨⟨⟨hx, hb, -, hown, hts⟩, hK, -⟩, -⟩ := B
  have hi := mI_in h
  refine va_iald hx hb hK hw.1.1 o 0 (by rw [mWs_at ho, mCell_i hs]) rfl hi.1 hdg ?_
  rw [hi.2]
  exact kk
theorem rb_alen {o len : Nat} (B : mCb p m c cc nL s args own meth D cy ret bs qs qv qf) (hw : mWb D cy bs n σ s.heap H locs) (ho : o < n) (hs : mSh o = (13, len)) (hdg : decode cc pc = .ok (.arraylength, 1))
    (kk : W p l e R s m args below meth c H locs cells slots Q (F0 m (pc + 1) ls (.int (mI (len : Int)) :: rest))) : W p l e R s m args below meth c H locs cells slots Q (F0 m pc ls (.ref (mAd bs o) :: rest)) := by
  obtain ⟨⟨⟨hx, hb, -, hown, hts⟩, hK, -⟩, -⟩ := B
  exact va_alen hx hb hK hw.1.1 o 0 (by rw [mWs_at ho, mCell_i hs]) (v := mI (len : Int)) (ty := .int) rfl (mI_nat len) hdg kk
theorem rb_obj {o idx : Nat} (B : mCb p m c cc nL s args own meth D cy ret bs qs qv qf) (hsz : ls.size = nL) (hlk : Cond.methodLink own idx objectInit ∈ lw_g) (hR : 1 ≤ R.frames ∧ 20 ≤ R.locals) (hcat : (rest.map fun v => v.category).sum ≤ 8) (hdg : decode cc pc = .ok (.invokespecial idx, 3))
    (kk : W p l e R s m args below meth c H locs cells slots Q (F0 m (pc + 3) ls rest)) : W p l e R s m args below meth c H locs cells slots Q (F0 m pc ls (.ref (mAd bs o) :: rest)) := by
  obtain ⟨⟨⟨hx, hb, hml, hown, hts⟩, hK, -⟩, -⟩ := B
  exact W.objInit hx hb hown (hts _ hlk) (hts _ kn_O) (hts _ kc_O) rfl (hsz.trans hml.symm) rfl hdg hR.1 (by show 2 * 0 + _ + 12 ≤ _; omega) kk
theorem rb_ci {o n' h' mc ms maxL index nA : Nat} {σ' : mMem} {y : MethodName} {bytes : ByteArray} (As : List Value) (B : mCb p m c cc nL s args own meth D cy ret bs qs qv qf) (hw : mWb D cy bs n σ s.heap H locs) (hM : mBv l D cy bs qs qv qf y bytes maxL h' mc ms (.ref (mAd bs o) :: As) n σ n' σ') (K : mKm y bytes maxL none nA) (hin : Cond.instanceMethod y ∈ lw_g) (hy1 : y.name = "<init>") (hlk : Cond.methodLink own index y ∈ lw_g) (hdg : decode cc pc = .ok (.invokespecial index, 3)) (hsz : ls.size = nL) (hst : st = As.reverse ++ .ref (mAd bs o) :: rest) (hn : As.length = nA) (hcat : (rest.map fun v => v.category).sum ≤ 8) (hR : h' + 1 ≤ R.frames ∧ 8 + (maxL + 11) + 64 * h' ≤ R.locals) (hRc : cells + mc ≤ R.cells ∧ slots + ms ≤ R.slots)
    (kk : ∀ (H1 : Heap) (locs1 : List Loc), mWb D cy bs n' σ' s.heap H1 locs1 → W p l e R s m args below meth c H1 locs1 (cells + mc) (slots + ms) Q (F0 m (pc + 3) ls rest)) : W p l e R s m args below meth c H locs cells slots Q (F0 m pc ls st) := by
  obtain ⟨⟨⟨hx, hb, hml, hown, hts⟩, hK, -⟩, hE⟩ := B
  obtain ⟨k1, k2, k3, k4, k5, k6⟩ := K
  refine va_callv (va_runI (As := As) (rest := rest) ⟨hx, hb, hml, hown, hts⟩ hM ⟨callB_of nA hts (lw_g_good k1) rfl rfl rfl (hts _ k2) (hts _ hlk) ⟨k3, k4, k5⟩ hR, hy1, hts _ hin⟩ ⟨mSB.blind, fun U hU hW => ⟨rfl, ⟨hw.1.SW hK hU hW.alike, by rw [hU]; exact hw.2⟩, hE.go hW (by rw [hU]; exact hw.old)⟩⟩ rfl hn hsz hst (lv_room hcat) hdg hRc) hw.1.2.2.1 (fun _ _ h => h) (fun _ h => h) (fun u t H1 locs1 ht hvm hpost hB hz hk hS => ?_)
  subst hpost
  exact kk H1 locs1 ⟨⟨by rw [← ht]; exact hB.1.1, hB.1.2.2.1, hS, hw.1.2.2.2⟩, by rw [← ht]; exact hB.2⟩
theorem rb_cn {o n' h' mc ms maxL index nA : Nat} {host : String} {σ' : mMem} {y : MethodName} {bytes : ByteArray} (As : List Value) (B : mCb p m c cc nL s args own meth D cy ret bs qs qv qf) (hw : mWb D cy bs n σ s.heap H locs) (hM : mBv l D cy bs qs qv qf y bytes maxL h' mc ms (.ref (mAd bs o) :: As) n σ n' σ') (K : mKm y bytes maxL none nA) (hin : Cond.instanceMethod y ∈ lw_g) (hy1 : y.name = "<init>") (hlk : va_Nw (.methodLinkNest own index y host) s) (hdg : decode cc pc = .ok (.invokespecial index, 3)) (hsz : ls.size = nL) (hst : st = As.reverse ++ .ref (mAd bs o) :: rest) (hn : As.length = nA) (hcat : (rest.map fun v => v.category).sum ≤ 8) (hR : h' + 1 ≤ R.frames ∧ 8 + (maxL + 11) + 64 * h' ≤ R.locals) (hRc : cells + mc ≤ R.cells ∧ slots + ms ≤ R.slots)
    (kk : ∀ (H1 : Heap) (locs1 : List Loc), mWb D cy bs n' σ' s.heap H1 locs1 → W p l e R s m args below meth c H1 locs1 (cells + mc) (slots + ms) Q (F0 m (pc + 3) ls rest)) : W p l e R s m args below meth c H locs cells slots Q (F0 m pc ls st) := by
  obtain ⟨⟨⟨hx, hb, hml, hown, hts⟩, hK, -⟩, hE⟩ := B
  obtain ⟨k1, k2, k3, k4, k5, k6⟩ := K
  refine va_callv (va_runIN (As := As) (rest := rest) ⟨hx, hb, hml, hown, hts⟩ hM ⟨va_cnB nA hts (lw_g_good k1) rfl rfl rfl hlk (hts _ k2) ⟨k3, k4, k5⟩ hR, hy1, hts _ hin⟩ ⟨mSB.blind, fun U hU hW => ⟨rfl, ⟨hw.1.SW hK hU hW.alike, by rw [hU]; exact hw.2⟩, hE.go hW (by rw [hU]; exact hw.old)⟩⟩ rfl hn hsz hst (lv_room hcat) hdg hRc) hw.1.2.2.1 (fun _ _ h => h) (fun _ h => h) (fun u t H1 locs1 ht hvm hpost hB hz hk hS => ?_)
  subst hpost
  exact kk H1 locs1 ⟨⟨by rw [← ht]; exact hB.1.1, hB.1.2.2.1, hS, hw.1.2.2.2⟩, by rw [← ht]; exact hB.2⟩
theorem rb_cv {o ci len N n' h' mc ms maxL index nA : Nat} {C : String} {T : u_T} {σ' : mMem} {y : MethodName} {bytes : ByteArray} (As : List Value) (B : mCb p m c cc nL s args own meth D cy ret bs qs qv qf) (hw : mWb D cy bs n σ s.heap H locs) (hM : mBv l D cy bs qs qv qf y bytes maxL h' mc ms (.ref (mAd bs o) :: As) n σ n' σ') (ho : o < n) (hs : mSh o = (ci, len)) (hc : vwCl[ci]? = some (C, T, N)) (h13 : ci < 13) (hyC : y.cls = C) (K : mKm y bytes maxL none nA) (V : mKv y) (hlk : Cond.methodLink own index y ∈ lw_g) (hdg : decode cc pc = .ok (.invokevirtual index, 3)) (hsz : ls.size = nL) (hst : st = As.reverse ++ .ref (mAd bs o) :: rest) (hn : As.length = nA) (hcat : (rest.map fun v => v.category).sum ≤ 8) (hR : h' + 1 ≤ R.frames ∧ 8 + (maxL + 11) + 64 * h' ≤ R.locals) (hRc : cells + mc ≤ R.cells ∧ slots + ms ≤ R.slots)
    (kk : ∀ (H1 : Heap) (locs1 : List Loc), mWb D cy bs n' σ' s.heap H1 locs1 → W p l e R s m args below meth c H1 locs1 (cells + mc) (slots + ms) Q (F0 m (pc + 3) ls rest)) : W p l e R s m args below meth c H locs cells slots Q (F0 m pc ls st) := by
  obtain ⟨⟨⟨hx, hb, hml, hown, hts⟩, hK, -⟩, hE⟩ := B
  obtain ⟨k1, k2, k3, k4, k5, k6⟩ := K
  subst hyC
  have hrec := va_recv hK hw.1.1 hc (show (mWs cy (mAd bs) false n σ)[o]? = some (mAd bs o, .inr (ci, mFs (mAd bs) false (σ o) ci o)) by rw [mWs_at ho, mCell_o hs h13])
  refine va_callv (va_runV (As := As) (rest := rest) ⟨hx, hb, hml, hown, hts⟩ hM ⟨callB_of nA hts (lw_g_good k1) rfl rfl rfl (hts _ k2) (hts _ hlk) ⟨k3, k4, k5⟩ hR, hts _ V.1, hts _ V.2⟩ ⟨mSB.blind, hrec, fun U hU hW => ⟨rfl, ⟨hw.1.SW hK hU hW.alike, by rw [hU]; exact hw.2⟩, hE.go hW (by rw [hU]; exact hw.old)⟩⟩ rfl hn hsz hst (lv_room hcat) hdg hRc) hw.1.2.2.1 (fun _ _ h => h) (fun _ h => h) (fun u t H1 locs1 ht hvm hpost hB hz hk hS => ?_)
  subst hpost
  exact kk H1 locs1 ⟨⟨by rw [← ht]; exact hB.1.1, hB.1.2.2.1, hS, hw.1.2.2.2⟩, by rw [← ht]; exact hB.2⟩
theorem rb_cs {n' h' mc ms maxL index nA : Nat} {σ' : mMem} {y : MethodName} {bytes : ByteArray} (As : List Value) (B : mCb p m c cc nL s args own meth D cy ret bs qs qv qf) (hw : mWb D cy bs n σ s.heap H locs) (hM : mBv l D cy bs qs qv qf y bytes maxL h' mc ms As n σ n' σ') (K : mKm y bytes maxL none nA) (V : Cond.static y ∈ lw_g) (hlk : Cond.methodLink own index y ∈ lw_g) (hdg : decode cc pc = .ok (.invokestatic index, 3)) (hsz : ls.size = nL) (hst : st = As.reverse ++ rest) (hn : As.length = nA) (hcat : (rest.map fun v => v.category).sum ≤ 8) (hR : h' + 1 ≤ R.frames ∧ 8 + (maxL + 11) + 64 * h' ≤ R.locals) (hRc : cells + mc ≤ R.cells ∧ slots + ms ≤ R.slots)
    (kk : ∀ (H1 : Heap) (locs1 : List Loc), mWb D cy bs n' σ' s.heap H1 locs1 → W p l e R s m args below meth c H1 locs1 (cells + mc) (slots + ms) Q (F0 m (pc + 3) ls rest)) : W p l e R s m args below meth c H locs cells slots Q (F0 m pc ls st) := by
  obtain ⟨⟨⟨hx, hb, hml, hown, hts⟩, hK, -⟩, hE⟩ := B
  obtain ⟨k1, k2, k3, k4, k5, k6⟩ := K
  refine va_callv (va_runS (As := As) (rest := rest) ⟨hx, hb, hml, hown, hts⟩ hM ⟨callB_of nA hts (lw_g_good k1) rfl rfl rfl (hts _ k2) (hts _ hlk) ⟨k3, k4, k5⟩ hR, hts _ V⟩ ⟨mSB.blind, fun U hU hW => ⟨rfl, ⟨hw.1.SW hK hU hW.alike, by rw [hU]; exact hw.2⟩, hE.go hW (by rw [hU]; exact hw.old)⟩⟩ rfl hn hsz hst (lv_room hcat) hdg hRc) hw.1.2.2.1 (fun _ _ h => h) (fun _ h => h) (fun u t H1 locs1 ht hvm hpost hB hz hk hS => ?_)
  subst hpost
  exact kk H1 locs1 ⟨⟨by rw [← ht]; exact hB.1.1, hB.1.2.2.1, hS, hw.1.2.2.2⟩, by rw [← ht]; exact hB.2⟩
/-- an array of N rows of K ints -/
def mRows (σ : mMem) (n N : Nat) : mMem := fun q => if n ≤ q ∧ q ≤ n + N then mZr else σ q
theorem rb_mnew {index N K : Nat} {a b : Int} (B : mCb p m c cc nL s args own meth D cy ret bs qs qv qf) (hw : mWb D cy bs n σ s.heap H locs) (hs : mSh n = (16, N)) (hr : ∀ j, j < N → mSh (n + 1 + j) = (13, K)) (ha : a = (N : Int)) (hb2 : b = (K : Int)) (hsm : N ≤ 1000 ∧ K ≤ 1000) (hcl : Cond.classLink own index "[[I" ∈ lw_g) (hcells : cells + (1 + N) ≤ R.cells) (hslots : slots + (N + N * K) ≤ R.slots) (hdg : decode cc pc = .ok (.multianewarray index 2, 4))
    (kk : ∀ (H1 : Heap) (locs1 : List Loc), mWb D cy bs (n + 1 + N) (mRows σ n N) s.heap H1 locs1 → W p l e R s m args below meth c H1 locs1 (cells + 1 + N) (slots + N + N * K) Q (F0 m (pc + 4) ls (.ref (mAd bs n) :: rest))) : W p l e R s m args below meth c H locs cells slots Q (F0 m pc ls (.int (mI b) :: .int (mI a) :: rest)) := by
  subst ha
  subst hb2
  obtain ⟨⟨⟨hx, hb, -, hown, hts⟩, hK, -⟩, -, -, -, ⟨⟨kI, cc0, g1, g2⟩, kA, g3, g4⟩, -⟩ := B
  obtain ⟨⟨hP, hD, hS, hbs⟩, hsz⟩ := hw
  have tt : ∀ x : Nat, x ≤ 1000 → (mI (x : Int)).toInt = (x : Int) := fun x hx => by rw [mI_toInt, mw_id (by omega) (by omega)]
  have nn : ∀ x : Nat, x ≤ 1000 → ¬ mI (x : Int) < 0 := fun x hx q => by
    have := Int32.lt_iff_toInt_lt.mp q
    rw [tt x hx] at this
    have h0 : (0 : Int32).toInt = 0 := by decide
    omega
  have tn : ∀ x : Nat, x ≤ 1000 → (mI (x : Int)).toNatClampNeg = x := fun x hx => by
    show (mI (x : Int)).toInt.toNat = x
    rw [tt x hx]
    omega
  have hra : s.vm.findClass "[[I" = some (cy 3) := mWb.ra (k := 3) hK rfl
  refine W_mnew hx hb hown (hts _ hcl) hra g3 g4 g1 g2 (nn N hsm.1) (nn K hsm.2) (tn N hsm.1) (tn K hsm.2) hsm hcells hslots hdg (fun H1 locs1 z1 e1 o1 i1 l1 => ?_)
  rw [hsz] at z1 e1 o1 i1 l1 ⊢
  have hk : ∀ (k : Nat) (x : Nat × va_E), (mWs cy (mAd bs) false n σ)[k]? = some x → H1[x.1]? = H[x.1]? := fun k x hx => o1 x.1 (by have := (hP k x hx).lt; omega)
  refine kk H1 locs1 ⟨⟨?_, ?_, ⟨by have := hS.1; omega, fun x h1 h2 => (o1 x (by have := hS.1; omega)).trans (hS.2.1 x h1 h2), fun x hx => ?_⟩, hbs⟩, by omega⟩
  · intro k x hx
    have hkl : k < n + 1 + N := by
      have := (List.getElem?_eq_some_iff.mp hx).1
      rw [mWs_len] at this
      exact this
    rw [mWs_at hkl] at hx
    cases hx
    by_cases c1 : k < n
    · have e2 : mRows σ n N k = σ k := by unfold mRows; rw [if_neg (by omega)]
      rw [e2]
      have h0 := hP k (mAd bs k, mCell cy (mAd bs) false (σ k) k) (mWs_at c1)
      exact h0.kept (o1 _ (by have := h0.lt; omega))
    · have e2 : mRows σ n N k = mZr := by unfold mRows; rw [if_pos (by omega)]
      rw [e2]
      by_cases c2 : k = n
      · subst c2
        rw [mCell_a hs]
        show H1[bs + k]? = some (vp_cell _ _)
        rw [e1]
        show some (mnO (cy 3) N (bs + k) N) = some (arrV (cy 3) N (fun j => va_rf (if j < N then some (mAd bs (k + 1 + j)) else none)))
        unfold mnO
        congr 2
        funext j
        by_cases hj : j < N
        · rw [if_pos hj, if_pos hj]
          have e7 : bs + k + 1 + j = bs + (k + 1 + j) := by omega
          rw [e7]
          rfl
        · rw [if_neg hj, if_neg hj]
          rfl
      · obtain ⟨j, ej⟩ : ∃ j, k = n + 1 + j := ⟨k - n - 1, by omega⟩
        subst ej
        rw [mCell_i (hr j (by omega))]
        show H1[bs + (n + 1 + j)]? = some (vp_cell _ _)
        rw [show bs + (n + 1 + j) = bs + n + 1 + j by omega, i1 j (by omega)]
        rfl
  · refine ⟨fun i j x y hx hy hxy => ?_, fun k x hx => ?_⟩
    · have hi := (List.getElem?_eq_some_iff.mp hx).1
      have hj := (List.getElem?_eq_some_iff.mp hy).1
      rw [mWs_len] at hi hj
      rw [mWs_at hi] at hx
      rw [mWs_at hj] at hy
      cases hx
      cases hy
      have : bs + i = bs + j := hxy
      omega
    · have hi := (List.getElem?_eq_some_iff.mp hx).1
      rw [mWs_len] at hi
      rw [mWs_at hi] at hx
      cases hx
      show bs ≤ bs + k
      omega
  · rcases l1 x hx with q | q
    · exact hS.2.2 x q
    · rw [q]
      show bs ≤ bs + n
      omega
end MB
