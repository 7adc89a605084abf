/-! LAYER 1: an array of arrays of ints is made -/
def mnO (cA : ClassId) (N h i : Nat) : Cell := arrV cA N (fun j => if j < i then .ref (h + 1 + j) else .null)
def mnI (cI : ClassId) (K : Nat) : Cell := arrV cI K (fun _ => .int 0)
/-- behind the first i rows of it -/
def mnS (T : State) (cA cI : ClassId) (N K : Nat) : Nat → State
  | 0 => T.pushCell (mnO cA N T.heap.size 0)
  | i + 1 => ((mnS T cA cI N K i).pushCell (mnI cI K)).setCell T.heap.size (mnO cA N T.heap.size (i + 1))
theorem mnO_next (cA : ClassId) (N h i : Nat) : (mnO cA N h i).setSlot i (.ref (h + 1 + i)) = mnO cA N h (i + 1) := by
  unfold mnO
  rw [arrV_store]
  congr 1
  funext j
  unfold updV
  by_cases e : j = i
  · subst e
    rw [if_pos rfl, if_pos (by omega)]
  · rw [if_neg e]
    by_cases q : j < i
    · exact (if_pos q).trans (if_pos (by omega)).symm
    · exact (if_neg q).trans (if_neg (by omega)).symm
theorem mnO_size (cA : ClassId) (N h i : Nat) : (mnO cA N h i).slots.size = N := arrV_size _ _ _
theorem mnI_size (cI : ClassId) (K : Nat) : (mnI cI K).slots.size = K := arrV_size _ _ _
theorem mnS_size (T : State) (cA cI : ClassId) (N K : Nat) : ∀ i, (mnS T cA cI N K i).heap.size = T.heap.size + 1 + i
  | 0 => by simp [mnS]
  | i + 1 => by
    have a := mnS_size T cA cI N K i
    simp only [mnS, State.setCell, Array.size_setIfInBounds]
    simp [a]
    omega
theorem mnS_outer (T : State) (cA cI : ClassId) (N K : Nat) : ∀ i, (mnS T cA cI N K i).heap[T.heap.size]? = some (mnO cA N T.heap.size i)
  | 0 => State.heap_pushCell_size _ _
  | i + 1 => by
    have a := mnS_size T cA cI N K i
    have hlt : T.heap.size < (mnS T cA cI N K i).heap.size := by omega
    exact State.heap_setCell_self (c := mnO cA N T.heap.size i) ((State.heap_pushCell_of_lt _ _ hlt).trans (mnS_outer T cA cI N K i))
theorem mnS_vm (T : State) (cA cI : ClassId) (N K : Nat) : ∀ i, (mnS T cA cI N K i).vm = T.vm
  | 0 => rfl
  | i + 1 => mnS_vm T cA cI N K i
theorem mnS_used (T : State) (cA cI : ClassId) (N K : Nat) : ∀ i, (mnS T cA cI N K i).slotsUsed = T.slotsUsed + N + i * K
  | 0 => by
    show T.slotsUsed + (mnO cA N T.heap.size 0).slots.size = _
    rw [mnO_size]
    omega
  | i + 1 => by
    show (mnS T cA cI N K i).slotsUsed + (mnI cI K).slots.size = _
    rw [mnS_used T cA cI N K i, mnI_size, Nat.succ_mul]
    omega
theorem mnS_old (T : State) (cA cI : ClassId) (N K : Nat) {q : Nat} (hq : q < T.heap.size) : ∀ i, (mnS T cA cI N K i).heap[q]? = T.heap[q]?
  | 0 => State.heap_pushCell_of_lt _ _ hq
  | i + 1 => by
    have a := mnS_size T cA cI N K i
    have hlt : q < (mnS T cA cI N K i).heap.size := by omega
    have hne : T.heap.size ≠ q := by omega
    exact (State.heap_setCell_other hne).trans ((State.heap_pushCell_of_lt _ _ hlt).trans (mnS_old T cA cI N K hq i))
theorem mnS_inner (T : State) (cA cI : ClassId) (N K : Nat) : ∀ i j, j < i → (mnS T cA cI N K i).heap[T.heap.size + 1 + j]? = some (mnI cI K)
  | 0, _, h => absurd h (Nat.not_lt_zero _)
  | i + 1, j, h => by
    have a := mnS_size T cA cI N K i
    have hne : T.heap.size ≠ T.heap.size + 1 + j := by omega
    refine (State.heap_setCell_other hne).trans ?_
    by_cases e : j < i
    · have hlt : T.heap.size + 1 + j < (mnS T cA cI N K i).heap.size := by omega
      exact (State.heap_pushCell_of_lt _ _ hlt).trans (mnS_inner T cA cI N K i j e)
    · have e2 : T.heap.size + 1 + j = (mnS T cA cI N K i).heap.size := by omega
      rw [e2]
      exact State.heap_pushCell_size _ _
theorem mnS_top (T : State) (f : JFrame) (cA cI : ClassId) (N K : Nat) : ∀ i, mnS (T.setTop f) cA cI N K i = (mnS T cA cI N K i).setTop f
  | 0 => rfl
  | i + 1 => by simp only [mnS, mnS_top T f cA cI N K i, State.heap_setTop, State.pushCell_setTop, State.setCell_setTop]
section MN
variable {p : Program} {l : Launch} {e : Env} {R : Room} {s : State} {m : MethodId} {args : Array Value} {below : List Frame} {meth : Method} {c : Code} {H : Heap} {locs : List Loc} {cells slots : Nat} {Q : State → Prop} {T : State}
theorem mnS_stand (X : Stand p l e R s m args below meth c T locs cells slots) (cA cI : ClassId) (N K : Nat) : ∀ i, ∃ L : List Loc, (∀ x ∈ L, x ∈ locs ∨ x.base = T.heap.size) ∧ Stand p l e R s m args below meth c (mnS T cA cI N K i) L (cells + 1 + i) (slots + N + i * K)
  | 0 => by
    have h := X.pushed (mnO cA N T.heap.size 0)
    rw [mnO_size] at h
    exact ⟨locs, fun x hx => Or.inl hx, by rw [Nat.zero_mul, Nat.add_zero, Nat.add_zero]; exact h⟩
  | i + 1 => by
    obtain ⟨L, h1, h2⟩ := mnS_stand X cA cI N K i
    have a := mnS_size T cA cI N K i
    have hlt : T.heap.size < (mnS T cA cI N K i).heap.size := by omega
    have hc : ((mnS T cA cI N K i).pushCell (mnI cI K)).heap[T.heap.size]? = some (mnO cA N T.heap.size i) := (State.heap_pushCell_of_lt _ _ hlt).trans (mnS_outer T cA cI N K i)
    have h := (h2.pushed (mnI cI K)).stored hc i (.ref (T.heap.size + 1 + i))
    rw [mnI_size, mnO_next] at h
    refine ⟨L ++ [⟨T.heap.size, i⟩], fun x hx => ?_, ?_⟩
    · rcases List.mem_append.mp hx with q | q
      · exact h1 x q
      · rw [List.mem_singleton.mp q]
        exact Or.inr rfl
    · rw [show slots + N + (i + 1) * K = slots + N + i * K + K by rw [Nat.succ_mul]; omega, show cells + 1 + (i + 1) = cells + 1 + i + 1 by omega]
      exact h
theorem mn_inner {E : CtlPost} {e : Env} {d : Bool} {acts : List Action} {s : State} {cI cc0 : ClassId} {kI : Class} {k : Int32} {Q : Addr → Jvm.Pre} (hkI : s.vm.classes[cI]? = some kI) (hkI2 : kI.kind = .array cc0 .int) (hk : ¬ k < 0) (hl : ¬ k.toNatClampNeg > e.platform.arrayLengthLimit) (hh : ¬ k.toNatClampNeg * componentBytes .int > e.platform.maxHeapBytes) (h1 : s.heap.size < e.platform.maxCells) (h2 : s.slotsUsed + k.toNatClampNeg ≤ e.platform.maxSlots)
    (hq : ∀ acts', Q s.heap.size d acts' (s.pushCell (mnI cI k.toNatClampNeg))) : wp (multianewarray.make cI [k]) Q E e d acts s := by
  rw [multianewarray.make]
  simp only [wp_bind', Jvm.W.ite, hk, if_false, wp_pure', Jvm.W.theClass, hkI, hkI2, Option.some.injEq, exists_eq_left']
  refine Jvm.W.newArray_of hkI hkI2 hl hh h1 h2 rfl (fun acts' => ?_)
  have e1 : ({ cls := cI, slots := Array.replicate k.toNatClampNeg (defaultValue .int) } : Cell) = mnI cI k.toNatClampNeg := arrV_new cI _ _
  rw [e1]
  exact hq acts'
theorem mn_make {E : CtlPost} {e : Env} {d : Bool} {acts : List Action} {s : State} {cA cI cc0 : ClassId} {kA kI : Class} {n k : Int32} {Q : Addr → Jvm.Pre} (hkA : s.vm.classes[cA]? = some kA) (hkA2 : kA.kind = .array cI (.array .int)) (hkI : s.vm.classes[cI]? = some kI) (hkI2 : kI.kind = .array cc0 .int) (hn : ¬ n < 0) (hk : ¬ k < 0) (hl1 : ¬ n.toNatClampNeg > e.platform.arrayLengthLimit) (hh1 : ¬ n.toNatClampNeg * componentBytes (.array .int) > e.platform.maxHeapBytes) (hl : ¬ k.toNatClampNeg > e.platform.arrayLengthLimit) (hh : ¬ k.toNatClampNeg * componentBytes .int > e.platform.maxHeapBytes)
    (h1 : s.heap.size + 1 + n.toNatClampNeg ≤ e.platform.maxCells) (h2 : s.slotsUsed + n.toNatClampNeg + n.toNatClampNeg * k.toNatClampNeg ≤ e.platform.maxSlots)
    (hq : ∀ d' acts', Q s.heap.size d' acts' (mnS s cA cI n.toNatClampNeg k.toNatClampNeg n.toNatClampNeg)) : wp (multianewarray.make cA [n, k]) Q E e d acts s := by
  have hfind : ([k].find? (· < 0)) = none := by simp [hk]
  rw [multianewarray.make]
  simp only [wp_bind', Jvm.W.ite, hn, if_false, wp_pure', Jvm.W.theClass, hkA, hkA2, Option.some.injEq, exists_eq_left']
  refine Jvm.W.newArray_of hkA hkA2 hl1 hh1 (by omega) (by have := Nat.zero_le (n.toNatClampNeg * k.toNatClampNeg); omega) rfl (fun acts1 => ?_)
  have e0 : s.pushCell ({ cls := cA, slots := Array.replicate n.toNatClampNeg .null } : Cell) = mnS s cA cI n.toNatClampNeg k.toNatClampNeg 0 := by
    show _ = s.pushCell (mnO cA n.toNatClampNeg s.heap.size 0)
    congr 1
    exact (arrV_new cA _ _).trans (by unfold mnO; rfl)
  rw [e0]
  simp only [hfind]
  rw [ite_self, wp_bind', Std.Legacy.Range.forIn_eq_forIn_range']
  have hsz : ([:n.toNatClampNeg] : Std.Legacy.Range).size = n.toNatClampNeg := by simp [Std.Legacy.Range.size]
  rw [hsz]
  refine wp_forIn_inv (fun rest s' => ∃ i, i ≤ n.toNatClampNeg ∧ rest = List.range' i (n.toNatClampNeg - i) ∧ s' = mnS s cA cI n.toNatClampNeg k.toNatClampNeg i) _ _ ⟨0, Nat.zero_le _, rfl, rfl⟩ ?_ ?_
  · rintro x rest s' d' acts' Q' ⟨i, hi, hl2, rfl⟩ hnext
    have hlt : i < n.toNatClampNeg := by
      rcases Nat.lt_or_ge i n.toNatClampNeg with h | h
      · exact h
      · rw [show n.toNatClampNeg - i = 0 by omega] at hl2
        simp at hl2
    rw [show n.toNatClampNeg - i = (n.toNatClampNeg - (i + 1)) + 1 by omega, List.range'_succ] at hl2
    obtain ⟨rfl, hrest⟩ := List.cons.inj hl2
    have hmul : x * k.toNatClampNeg + k.toNatClampNeg ≤ n.toNatClampNeg * k.toNatClampNeg := by
      have := Nat.mul_le_mul_right k.toNatClampNeg (show x + 1 ≤ n.toNatClampNeg from hlt)
      rw [Nat.succ_mul] at this
      exact this
    have a := mnS_size s cA cI n.toNatClampNeg k.toNatClampNeg x
    simp only [wp_bind']
    refine mn_inner (cc0 := cc0) (kI := kI) (by rw [mnS_vm]; exact hkI) hkI2 hk hl hh (by omega) (by rw [mnS_used]; omega) (fun acts2 => ?_)
    simp only [wp_bind', Jvm.W.writeLoc, wp_pure']
    have hlt0 : s.heap.size < (mnS s cA cI n.toNatClampNeg k.toNatClampNeg x).heap.size := by omega
    refine ⟨mnO cA n.toNatClampNeg s.heap.size x, (State.heap_pushCell_of_lt _ _ hlt0).trans (mnS_outer s cA cI _ _ x), (fun q => by cases q), by rw [mnO_size]; exact hlt, ?_, hnext _ _ _ ⟨x + 1, hlt, hrest, ?_⟩⟩
    · show State.fitsSlot _ cA .none x _ = true
      simp [State.fitsSlot, State.slotType?, mnS_vm, hkA, hkA2]
      rfl
    · rw [a, mnO_next]
      rfl
  · rintro s' d' acts' ⟨i, hi, hl2, rfl⟩
    have hiN : i = n.toNatClampNeg := by
      rcases Nat.lt_or_ge i n.toNatClampNeg with h | h
      · rw [show n.toNatClampNeg - i = (n.toNatClampNeg - (i + 1)) + 1 by omega, List.range'_succ] at hl2
        cases hl2
      · omega
    subst hiN
    simp only [wp_pure']
    exact hq _ _
theorem W_mnew {cc : ByteArray} {pc index N K : Nat} {ls : Array Slot} {rest : List Value} {own : String} {cA cI cc0 : ClassId} {kA kI : Class} {n k : Int32} (hx : p.tables.exec = Jvm.exec) (hb : c.code = cc) (hown : s.vm.findClass own = some m.cls) (hcl : (Cond.classLink own index "[[I").before args s = true) (hfA : s.vm.findClass "[[I" = some cA) (hkA : s.vm.classes[cA]? = some kA) (hkA2 : kA.kind = .array cI (.array .int)) (hkI : s.vm.classes[cI]? = some kI) (hkI2 : kI.kind = .array cc0 .int) (hn : ¬ n < 0) (hk : ¬ k < 0) (hN : n.toNatClampNeg = N) (hK : k.toNatClampNeg = K) (hsm : N ≤ 1000 ∧ K ≤ 1000) (hcells : cells + (1 + N) ≤ R.cells) (hslots : slots + (N + N * K) ≤ R.slots) (hdg : decode cc pc = .ok (.multianewarray index 2, 4))
    (kk : ∀ (H1 : Heap) (locs1 : List Loc), H1.size = H.size + 1 + N → H1[H.size]? = some (mnO cA N H.size N) → (∀ q, q < H.size → H1[q]? = H[q]?) → (∀ j, j < N → H1[H.size + 1 + j]? = some (mnI cI K)) → (∀ x ∈ locs1, x ∈ locs ∨ x.base = H.size) → W p l e R s m args below meth c H1 locs1 (cells + 1 + N) (slots + N + N * K) Q (F0 m (pc + 4) ls (.ref H.size :: rest))) : W p l e R s m args below meth c H locs cells slots Q (F0 m pc ls (.int k :: .int n :: rest)) := by
  subst hN
  subst hK
  intro T hT X
  subst hT
  have hpl : e.platform.magicAccessors = ({} : Platform).magicAccessors := by rw [X.admits.platform]
  obtain ⟨c0, hfc0, hcl2⟩ := Cond.classLink_spec hown hcl e.platform hpl
  cases hfA.symm.trans hfc0
  obtain ⟨hg1, hwarm1, -⟩ := State.classEntry (e := e) X.warmed hcl2
  generalize T.vm.noted m.cls index (.cls cA) = vm1 at hg1 hwarm1
  have hal : s.vm.Alike vm1 := hwarm1.alike
  obtain ⟨kA1, hkA1, heA⟩ := hal.2.2 _ _ hkA
  obtain ⟨kI1, hkI1, heI⟩ := hal.2.2 _ _ hkI
  have X1 := X.noted hwarm1
  obtain ⟨hr1, hr2⟩ := X.roomAbove hcells hslots
  obtain ⟨L, hL, XF⟩ := mnS_stand X1 cA cI n.toNatClampNeg k.toNatClampNeg n.toNatClampNeg
  obtain ⟨t, b1, b2⟩ := kk (mnS (T.setVm vm1) cA cI n.toNatClampNeg k.toNatClampNeg n.toNatClampNeg).heap L (mnS_size _ _ _ _ _ _) (mnS_outer _ _ _ _ _ _) (fun q hq => mnS_old (T.setVm vm1) _ _ _ _ hq _) (fun j hj => mnS_inner (T.setVm vm1) _ _ _ _ _ j hj) hL _ rfl XF
  refine ⟨t, ?_, b2⟩
  have hl1 : ¬ n.toNatClampNeg > e.platform.arrayLengthLimit := by rw [Launch.admits_arrayLengthLimit X.admits]; omega
  have hh1 : ¬ n.toNatClampNeg * componentBytes (.array .int) > e.platform.maxHeapBytes := by
    rw [Launch.admits_maxHeapBytes X.admits]
    show ¬ n.toNatClampNeg * 4 > 536870912
    omega
  have hl2 : ¬ k.toNatClampNeg > e.platform.arrayLengthLimit := by rw [Launch.admits_arrayLengthLimit X.admits]; omega
  have hh2 : ¬ k.toNatClampNeg * componentBytes .int > e.platform.maxHeapBytes := by
    rw [Launch.admits_maxHeapBytes X.admits]
    show ¬ k.toNatClampNeg * 4 > 536870912
    omega
  jvm_step X.here [X.here.top, hx, hb, hdg]
  simp only [multianewarray.sem, wp_bind', Jvm.W.resolveClassAt_links (State.method?_setTop (F0 m pc ls (.int k :: .int n :: rest)) X.here.top) hg1]
  rw [Jvm.W.popN, if_neg (by decide)]
  refine ⟨F0 m pc ls (.int k :: .int n :: rest), State.topJava?_setTop' (s := T.setVm vm1) _ X.here.top, [.int n, .int k], rest, rfl, rfl, ?_⟩
  simp only [List.mapM_cons, List.mapM_nil, wp_bind', wp_pure']
  refine mn_make (kA := kA1) (kI := kI1) (cI := cI) (cc0 := cc0) hkA1 (by rw [heA]; exact hkA2) hkI1 (by rw [heI]; exact hkI2) hn hk hl1 hh1 hl2 hh2 (by show T.heap.size + 1 + _ ≤ _; omega) (by show T.slotsUsed + _ + _ ≤ _; omega) (fun d' acts' => ?_)
  have eS : ((T.setTop (F0 m pc ls (.int k :: .int n :: rest))).setVm vm1).setTop { (F0 m pc ls (.int k :: .int n :: rest)) with stack := rest } = (T.setVm vm1).setTop { (F0 m pc ls (.int k :: .int n :: rest)) with stack := rest } := by
    show ((T.setVm vm1).setTop _).setTop _ = _
    rw [State.setTop_setTop]
  rw [eS, mnS_top]
  simp only [wp_bind', Jvm.W.mark, Jvm.W.pushRef, State.topJava?_setTop' _ XF.here.top, Option.some.injEq, exists_eq_left', State.setTop_setTop, State.heap_setTop]
  intro acts
  simp [jvm, XF.here.top]
  exact b1
end MN
