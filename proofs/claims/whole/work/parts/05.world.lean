/-- the tables' words that hold on in every state behind the first -/
def lw_g : List Cond := lw_tbl.filter goodWord
theorem lw_g_tbl {w : Cond} (h : w ∈ lw_g) : w ∈ lw_tbl := (List.mem_filter.mp h).1
theorem lw_g_in {w : Cond} (h : w ∈ lw_tbl) (hg : goodWord w = true) : w ∈ lw_g := List.mem_filter.mpr ⟨h, hg⟩
theorem lw_g_good {y : MethodName} {b : ByteArray} {n : Nat} {r : Option FieldType} (h : Cond.code y b n r ∈ lw_g) : GoodIn lw_g (.code y b n r :: lw_g) := by
  intro w hw
  have hm : w ∈ lw_g := by
    rcases List.mem_cons.mp hw with e | e
    · rw [e]; exact h
    · exact e
  exact ⟨hm, good_of_word (List.mem_filter.mp hm).2⟩
/-! the objects that the law makes, in the order in which they are made (written by mk_world.py) -/
def mShT : List (Nat × Nat) := [(11, 13), (7, 2), (13, 1600), (5, 15), (13, 81), (13, 6), (13, 60), (13, 1600), (5, 15), (13, 81), (13, 6), (13, 60), (13, 1600), (6, 3), (8, 12), (13, 28), (13, 1600), (13, 1600), (13, 1600), (1, 3), (10, 8), (13, 60), (15, 6), (2, 2), (13, 7), (13, 80), (0, 4), (13, 324), (13, 324), (10, 8), (13, 60), (15, 6), (2, 2), (13, 7), (13, 80), (9, 4), (13, 48), (16, 10), (13, 41), (13, 41), (13, 41), (13, 41), (13, 41), (13, 41), (13, 41), (13, 41), (13, 41), (13, 41), (10, 8), (13, 60), (15, 6), (2, 2), (13, 7), (13, 80), (3, 5), (16, 20), (13, 123), (13, 123), (13, 123), (13, 123), (13, 123), (13, 123), (13, 123), (13, 123), (13, 123), (13, 123), (13, 123), (13, 123), (13, 123), (13, 123), (13, 123), (13, 123), (13, 123), (13, 123), (13, 123), (13, 123), (13, 60), (4, 3), (13, 52), (10, 8), (13, 60), (15, 6), (2, 2), (13, 7), (13, 80), (13, 6), (12, 72), (13, 1800), (13, 2), (13, 2), (13, 162), (13, 2), (13, 12), (13, 12), (13, 12), (13, 12), (13, 12), (13, 6), (13, 4), (13, 4), (13, 3200), (13, 3200), (14, 12), (13, 20), (13, 20), (15, 20), (13, 20), (13, 20), (13, 500), (13, 6), (13, 22), (13, 22), (13, 132), (13, 132), (13, 132), (13, 132), (13, 132), (13, 22), (13, 5280), (14, 500), (13, 12), (13, 324), (13, 16), (13, 16), (13, 410), (13, 60)]
def mN : Nat := 126
def mSh (o : Nat) : Nat × Nat := mShT.getD o (99, 0)
def mFt (c : Nat) : List Nat := match c with
  | 0 => [2, 2, 2, 0]
  | 1 => [2, 3, 0]
  | 2 => [2, 2]
  | 3 => [2, 2, 0, 0, 0]
  | 4 => [2, 0, 2]
  | 5 => [2, 2, 2, 2, 0, 0, 0, 0, 0, 0, 0, 0, 0, 0, 0]
  | 6 => [2, 2, 3]
  | 7 => [2, 0]
  | 8 => [2, 2, 2, 2, 2, 0, 0, 0, 0, 0, 0, 0]
  | 9 => [2, 2, 2, 0]
  | 10 => [2, 2, 2, 3, 0, 0, 0, 0]
  | 11 => [2, 2, 2, 2, 2, 2, 2, 2, 3, 3, 0, 0, 0]
  | 12 => [2, 0, 0, 0, 0, 0, 0, 1, 0, 0, 0, 0, 0, 0, 2, 2, 2, 2, 2, 2, 2, 2, 2, 2, 2, 2, 2, 2, 2, 0, 0, 0, 2, 2, 2, 2, 2, 0, 0, 2, 0, 0, 2, 2, 2, 2, 2, 2, 2, 2, 2, 2, 0, 0, 1, 2, 2, 0, 0, 0, 0, 0, 0, 0, 0, 2, 0, 2, 2, 2, 2, 0]
  | _ => []
def mFx (c o k : Nat) : Nat := match c with
  | 0 => [29, 27, 28, 0].getD k 0
  | 1 => [14, 0, 0].getD k 0
  | 2 => o + 1 + k
  | 3 => [55, 76, 0, 0, 0].getD k 0
  | 4 => [78, 0, 79].getD k 0
  | 5 => o + 1 + k
  | 6 => [14, 19, 0].getD k 0
  | 7 => o + 1 + k
  | 8 => [1, 15, 16, 17, 18, 0, 0, 0, 0, 0, 0, 0].getD k 0
  | 9 => [48, 36, 37, 0].getD k 0
  | 10 => o + 1 + k
  | 11 => [1, 13, 20, 26, 35, 54, 77, 85, 0, 0, 0, 0, 0].getD k 0
  | 12 => [87, 0, 0, 0, 0, 0, 0, 0, 0, 0, 0, 0, 0, 0, 88, 89, 90, 91, 92, 93, 94, 95, 96, 97, 98, 99, 100, 101, 102, 0, 0, 0, 103, 104, 105, 106, 107, 0, 0, 108, 0, 0, 109, 110, 111, 112, 113, 114, 115, 116, 117, 118, 0, 0, 0, 119, 120, 0, 0, 0, 0, 0, 0, 0, 0, 121, 0, 122, 123, 124, 125, 0].getD k 0
  | _ => 0
/-! the world: the objects made so far, each with what the memory says of it -/
def mA (bs : Nat) : Nat → Prop := fun q => bs ≤ q
def mRf (ad : Nat → Nat) (z : Int) : Value := if z < 0 then .null else .ref (ad z.toNat)
def mFv (ad : Nat → Nat) (md : Bool) (r : Nat → Int) (c o k : Nat) : Value :=
  if (mFt c).getD k 0 = 0 then .int (mI (r k)) else if (mFt c).getD k 0 = 1 then .long (mL (r k))
  else if md = false then mRf ad (r k) else if (mFt c).getD k 0 = 2 then .ref (ad (mFx c o k)) else .ref (ad (r k).toNat)
def mFs (ad : Nat → Nat) (md : Bool) (r : Nat → Int) (c o : Nat) : List Value := (List.range (mFt c).length).map (mFv ad md r c o)
def mCell (cy : Nat → ClassId) (ad : Nat → Nat) (md : Bool) (r : Nat → Int) (o : Nat) : va_E :=
  if (mSh o).1 = 13 then .inl (cy 0, (mSh o).2, .inl (fun j => mI (r j)))
  else if (mSh o).1 = 14 then .inl (cy 1, (mSh o).2, .inr (.inl (fun j => mL (r j))))
  else if (mSh o).1 = 15 then .inl (cy 2, (mSh o).2, .inl (fun j => mI (r j)))
  else if (mSh o).1 = 16 then .inl (cy 3, (mSh o).2, .inr (.inr (.inr (.inr (fun i => if i < (mSh o).2 then some (ad (o + 1 + i)) else none)))))
  else .inr ((mSh o).1, mFs ad md r (mSh o).1 o)
def mWs (cy : Nat → ClassId) (ad : Nat → Nat) (md : Bool) (n : Nat) (σ : mMem) : va_W := (List.range n).map (fun o => (ad o, mCell cy ad md (σ o) o))
theorem mWs_at {cy : Nat → ClassId} {ad : Nat → Nat} {md : Bool} {n o : Nat} {σ : mMem} (h : o < n) : (mWs cy ad md n σ)[o]? = some (ad o, mCell cy ad md (σ o) o) := by
  unfold mWs
  rw [List.getElem?_map, List.getElem?_range h]
  rfl
theorem mWs_len (cy : Nat → ClassId) (ad : Nat → Nat) (md : Bool) (n : Nat) (σ : mMem) : (mWs cy ad md n σ).length = n := by simp [mWs]
theorem mWs_set {cy : Nat → ClassId} {ad : Nat → Nat} {md : Bool} {n o : Nat} {σ : mMem} (r : Nat → Int) : (mWs cy ad md n σ).set o (ad o, mCell cy ad md r o) = mWs cy ad md n (mupo σ o r) := by
  apply List.ext_getElem?
  intro i
  by_cases hi : i < n
  · rw [mWs_at hi]
    by_cases e : i = o
    · subst e
      rw [List.getElem?_set_self (by rw [mWs_len]; exact hi)]
      simp [mupo]
    · rw [List.getElem?_set_ne (fun q => e q.symm), mWs_at hi]
      simp [mupo, e]
  · rw [List.getElem?_eq_none (by rw [List.length_set, mWs_len]; omega), List.getElem?_eq_none (by rw [mWs_len]; omega)]
theorem mSh_lt {o c len : Nat} (h : mSh o = (c, len)) (hc : c < 20) : o < mN := by
  rcases Nat.lt_or_ge o mN with q | q
  · exact q
  · have hl : mShT.length = mN := by decide +kernel
    unfold mSh at h
    rw [List.getD_eq_getElem?_getD, List.getElem?_eq_none (by rw [hl]; exact q)] at h
    have e : (99 : Nat) = c := congrArg Prod.fst h
    omega
theorem mCell_i {cy : Nat → ClassId} {ad : Nat → Nat} {md : Bool} {r : Nat → Int} {o len : Nat} (h : mSh o = (13, len)) : mCell cy ad md r o = .inl (cy 0, len, .inl (fun j => mI (r j))) := by simp [mCell, h]
theorem mCell_l {cy : Nat → ClassId} {ad : Nat → Nat} {md : Bool} {r : Nat → Int} {o len : Nat} (h : mSh o = (14, len)) : mCell cy ad md r o = .inl (cy 1, len, .inr (.inl (fun j => mL (r j)))) := by simp [mCell, h]
theorem mCell_z {cy : Nat → ClassId} {ad : Nat → Nat} {md : Bool} {r : Nat → Int} {o len : Nat} (h : mSh o = (15, len)) : mCell cy ad md r o = .inl (cy 2, len, .inl (fun j => mI (r j))) := by simp [mCell, h]
theorem mCell_a {cy : Nat → ClassId} {ad : Nat → Nat} {md : Bool} {r : Nat → Int} {o len : Nat} (h : mSh o = (16, len)) : mCell cy ad md r o = .inl (cy 3, len, .inr (.inr (.inr (.inr (fun i => if i < len then some (ad (o + 1 + i)) else none))))) := by simp [mCell, h]
theorem mCell_o {cy : Nat → ClassId} {ad : Nat → Nat} {md : Bool} {r : Nat → Int} {o c len : Nat} (h : mSh o = (c, len)) (hc : c < 13) : mCell cy ad md r o = .inr (c, mFs ad md r c o) := by
  unfold mCell
  rw [h]
  rw [if_neg (by show ¬ c = 13; omega), if_neg (by show ¬ c = 14; omega), if_neg (by show ¬ c = 15; omega), if_neg (by show ¬ c = 16; omega)]
theorem mFs_at {ad : Nat → Nat} {md : Bool} {r : Nat → Int} {c o k : Nat} (h : k < (mFt c).length) : (mFs ad md r c o)[k]? = some (mFv ad md r c o k) := by
  unfold mFs
  rw [List.getElem?_map, List.getElem?_range h]
  rfl
theorem mFs_len (ad : Nat → Nat) (md : Bool) (r : Nat → Int) (c o : Nat) : (mFs ad md r c o).length = (mFt c).length := by simp [mFs]
theorem mFs_set {ad : Nat → Nat} {md : Bool} {r : Nat → Int} {c o k : Nat} {z : Int} : (mFs ad md r c o).set k (mFv ad md (mup1 r k z) c o k) = mFs ad md (mup1 r k z) c o := by
  apply List.ext_getElem?
  intro i
  by_cases hi : i < (mFt c).length
  · rw [mFs_at hi]
    by_cases e : i = k
    · subst e
      rw [List.getElem?_set_self (by rw [mFs_len]; exact hi)]
    · rw [List.getElem?_set_ne (fun q => e q.symm), mFs_at hi]
      simp [mFv, mup1, e]
  · rw [List.getElem?_eq_none (by rw [List.length_set, mFs_len]; omega), List.getElem?_eq_none (by rw [mFs_len]; omega)]
theorem mFv_i {ad : Nat → Nat} {md : Bool} {r : Nat → Int} {c o k : Nat} (h : (mFt c).getD k 0 = 0) : mFv ad md r c o k = .int (mI (r k)) := by simp only [mFv, h, if_true]
theorem mFv_l {ad : Nat → Nat} {md : Bool} {r : Nat → Int} {c o k : Nat} (h : (mFt c).getD k 0 = 1) : mFv ad md r c o k = .long (mL (r k)) := by
  unfold mFv
  rw [if_neg (by omega), if_pos h]
theorem mFv_r {ad : Nat → Nat} {r : Nat → Int} {c o k q : Nat} (h : (mFt c).getD k 0 = 2) (hq : mFx c o k = q) : mFv ad true r c o k = .ref (ad q) := by
  unfold mFv
  rw [if_neg (by omega), if_neg (by omega), if_neg (by decide), if_pos h, hq]
theorem mFv_d {ad : Nat → Nat} {r : Nat → Int} {c o k : Nat} (h : (mFt c).getD k 0 = 3) : mFv ad true r c o k = .ref (ad (r k).toNat) := by
  unfold mFv
  rw [if_neg (by omega), if_neg (by omega), if_neg (by decide), if_neg (by omega)]
theorem mFv_c {ad : Nat → Nat} {r : Nat → Int} {c o k : Nat} (h : 2 ≤ (mFt c).getD k 0) : mFv ad false r c o k = mRf ad (r k) := by
  unfold mFv
  rw [if_neg (by omega), if_neg (by omega), if_pos rfl]
def mtys (cy : Nat → ClassId) : List (ClassId × FieldType) := [(cy 0, .int), (cy 1, .long), (cy 2, .boolean), (cy 3, .array .int)]
/-- the world on the heap, as a walk has it -/
def mWd (D : va_G) (cy : Nat → ClassId) (ad : Nat → Nat) (bs : Nat) (md : Bool) (n : Nat) (σ : mMem) (H0 H : Heap) (locs : List Loc) : Prop :=
  va_P D vwCl (mWs cy ad md n σ) H ∧ va_D (mA bs) (mWs cy ad md n σ) ∧ va_S (mA bs) H0 H locs ∧ bs ≤ H0.size
/-- the world in a state, as a contract has it -/
def mSW (D : va_G) (cy : Nat → ClassId) (ad : Nat → Nat) (bs : Nat) (md : Bool) (n : Nat) (σ : mMem) (U : State) : Prop :=
  va_P D vwCl (mWs cy ad md n σ) U.heap ∧ va_K D vwCl (mtys cy) U ∧ va_D (mA bs) (mWs cy ad md n σ) ∧ bs ≤ U.heap.size
def mRm (h : Nat) : Room := { frames := h, cells := 0, slots := 0, locals := 64 * h }
/-- what a walk knows of its method -/
def mCx (p : Program) (m : MethodId) (c : Code) (cc : ByteArray) (nL : Nat) (s : State) (args : Array Value) (own : String) (meth : Method) (D : va_G) (cy : Nat → ClassId) (ret : Option FieldType) : Prop :=
  CallFix p m c cc nL s args lw_g own ∧ va_K D vwCl (mtys cy) s ∧ meth.locks = false ∧ meth.sig.returnType = ret
def mQi (D : va_G) (cy : Nat → ClassId) (ad : Nat → Nat) (bs : Nat) (r : Int) (σ : mMem) : Array Value → State → Outcome → State → Prop :=
  va_Qi (fun v (u : mMem) => v = mI r ∧ u = σ) (fun u U => mSW D cy ad bs true mN u U) (mA bs)
def mQl (D : va_G) (cy : Nat → ClassId) (ad : Nat → Nat) (bs : Nat) (r : Int) (σ : mMem) : Array Value → State → Outcome → State → Prop :=
  va_Ql (fun v (u : mMem) => v = mL r ∧ u = σ) (fun u U => mSW D cy ad bs true mN u U) (mA bs)
def mQv (D : va_G) (cy : Nat → ClassId) (ad : Nat → Nat) (bs : Nat) (σ : mMem) : Array Value → State → Outcome → State → Prop :=
  va_Qv (fun (u : mMem) => u = σ) (fun u U => mSW D cy ad bs true mN u U) (mA bs)
/-- contracts: an int (a boolean), a long, nothing -/
def mCi (l : Launch) (D : va_G) (cy : Nat → ClassId) (ad : Nat → Nat) (bs : Nat) (y : MethodName) (bytes : ByteArray) (maxL : Nat) (ret : Option FieldType) (h : Nat) (As : List Value) (σ : mMem) (r : Int) (σ' : mMem) : Prop :=
  Met l y (.code y bytes maxL ret :: lw_g) (mRm h) (va_Pc As (mSW D cy ad bs true mN σ)) (mQi D cy ad bs r σ') 0 0 (mA bs)
def mCl (l : Launch) (D : va_G) (cy : Nat → ClassId) (ad : Nat → Nat) (bs : Nat) (y : MethodName) (bytes : ByteArray) (maxL : Nat) (ret : Option FieldType) (h : Nat) (As : List Value) (σ : mMem) (r : Int) (σ' : mMem) : Prop :=
  Met l y (.code y bytes maxL ret :: lw_g) (mRm h) (va_Pc As (mSW D cy ad bs true mN σ)) (mQl D cy ad bs r σ') 0 0 (mA bs)
def mCv (l : Launch) (D : va_G) (cy : Nat → ClassId) (ad : Nat → Nat) (bs : Nat) (y : MethodName) (bytes : ByteArray) (maxL : Nat) (ret : Option FieldType) (h : Nat) (As : List Value) (σ : mMem) (σ' : mMem) : Prop :=
  Met l y (.code y bytes maxL ret :: lw_g) (mRm h) (va_Pc As (mSW D cy ad bs true mN σ)) (mQv D cy ad bs σ') 0 0 (mA bs)
theorem mSW.blind {D : va_G} {cy : Nat → ClassId} {ad : Nat → Nat} {bs : Nat} {md : Bool} {n : Nat} {σ : mMem} {As : List Value} : FrameBlind (va_Pc As (mSW D cy ad bs md n σ)) := fun a U g mk q => ⟨q.1, q.2.1, va_K.moved (u := U) (U := U.calling g mk a) (Vm.Alike.refl U.vm) q.2.2.1, q.2.2.2.1, q.2.2.2.2⟩
