/-! a row an instruction, over the world -/
section MR
variable {p : Program} {l : Launch} {e : Env} {R : Room} {s : State} {m : MethodId} {args : Array Value} {below : List Frame} {meth : Method} {c : Code} {H : Heap} {locs : List Loc} {cells slots : Nat} {Q : State → Prop}
variable {cc : ByteArray} {pc nL bs n : Nat} {ls : Array Slot} {rest : List Value} {D : va_G} {cy : Nat → ClassId} {ad : Nat → Nat} {md : Bool} {σ : mMem} {own : String} {ret : Option FieldType}
/-- a field of a class: the class in the tables, its words, the field's place -/
def mFd (ci k : Nat) (C : String) (T : u_T) (N : Nat) : Prop := vwCl[ci]? = some (C, T, N) ∧ (∀ w ∈ u_ws C T N, w ∈ lw_g) ∧ k < N ∧ k < (mFt ci).length ∧ ci < 13
theorem r_get {o ci k index N len : Nat} {C : String} {T : u_T} (X : mCx p m c cc nL s args own meth D cy ret) (hw : mWd D cy ad bs md n σ s.heap H locs) (ho : o < n) (hs : mSh o = (ci, len)) (F : mFd ci k C T N) (hlk : Cond.fieldLink own index (T k).1 (T k).2.1 (T k).2.2.1 ∈ lw_g) (hdg : decode cc pc = .ok (.getfield index, 3))
    (kk : W p l e R s m args below meth c H locs cells slots Q (F0 m (pc + 3) ls (mFv ad md (σ o) ci o k :: rest))) : W p l e R s m args below meth c H locs cells slots Q (F0 m pc ls (.ref (ad o) :: rest)) := by
  obtain ⟨⟨hx, hb, -, hown, hts⟩, hK, -⟩ := X
  obtain ⟨h1, h2, h3, h4, h5⟩ := F
  exact va_get hx hb hts h2 hown hK hw.1 o (by rw [mWs_at ho, mCell_o hs h5]) h1 k h3 (hts _ hlk) (fun _ h => h) (mFs_at h4) hdg kk
theorem r_geti {o ci k index N len : Nat} {C : String} {T : u_T} (X : mCx p m c cc nL s args own meth D cy ret) (hw : mWd D cy ad bs true mN σ s.heap H locs) (hs : mSh o = (ci, len)) (F : mFd ci k C T N) (hft : (mFt ci).getD k 0 = 0) (hlk : Cond.fieldLink own index (T k).1 (T k).2.1 (T k).2.2.1 ∈ lw_g) (hdg : decode cc pc = .ok (.getfield index, 3))
    (kk : W p l e R s m args below meth c H locs cells slots Q (F0 m (pc + 3) ls (.int (mI (σ o k)) :: rest))) : W p l e R s m args below meth c H locs cells slots Q (F0 m pc ls (.ref (ad o) :: rest)) :=
  r_get X hw (mSh_lt hs (Nat.lt_of_lt_of_le F.2.2.2.2 (by decide))) hs F hlk hdg (by rw [mFv_i hft]; exact kk)
theorem r_getl {o ci k index N len : Nat} {C : String} {T : u_T} (X : mCx p m c cc nL s args own meth D cy ret) (hw : mWd D cy ad bs true mN σ s.heap H locs) (hs : mSh o = (ci, len)) (F : mFd ci k C T N) (hft : (mFt ci).getD k 0 = 1) (hlk : Cond.fieldLink own index (T k).1 (T k).2.1 (T k).2.2.1 ∈ lw_g) (hdg : decode cc pc = .ok (.getfield index, 3))
    (kk : W p l e R s m args below meth c H locs cells slots Q (F0 m (pc + 3) ls (.long (mL (σ o k)) :: rest))) : W p l e R s m args below meth c H locs cells slots Q (F0 m pc ls (.ref (ad o) :: rest)) :=
  r_get X hw (mSh_lt hs (Nat.lt_of_lt_of_le F.2.2.2.2 (by decide))) hs F hlk hdg (by rw [mFv_l hft]; exact kk)
theorem r_getr {o ci k index N len : Nat} {C : String} {T : u_T} (q : Nat) (X : mCx p m c cc nL s args own meth D cy ret) (hw : mWd D cy ad bs true mN σ s.heap H locs) (hs : mSh o = (ci, len)) (F : mFd ci k C T N) (hft : (mFt ci).getD k 0 = 2) (hq : mFx ci o k = q) (hlk : Cond.fieldLink own index (T k).1 (T k).2.1 (T k).2.2.1 ∈ lw_g) (hdg : decode cc pc = .ok (.getfield index, 3))
    (kk : W p l e R s m args below meth c H locs cells slots Q (F0 m (pc + 3) ls (.ref (ad q) :: rest))) : W p l e R s m args below meth c H locs cells slots Q (F0 m pc ls (.ref (ad o) :: rest)) :=
  r_get X hw (mSh_lt hs (Nat.lt_of_lt_of_le F.2.2.2.2 (by decide))) hs F hlk hdg (by rw [mFv_r hft hq]; exact kk)
theorem r_getd {o ci k index N len : Nat} {C : String} {T : u_T} (X : mCx p m c cc nL s args own meth D cy ret) (hw : mWd D cy ad bs true mN σ s.heap H locs) (hs : mSh o = (ci, len)) (F : mFd ci k C T N) (hft : (mFt ci).getD k 0 = 3) (hlk : Cond.fieldLink own index (T k).1 (T k).2.1 (T k).2.2.1 ∈ lw_g) (hdg : decode cc pc = .ok (.getfield index, 3))
    (kk : W p l e R s m args below meth c H locs cells slots Q (F0 m (pc + 3) ls (.ref (ad (σ o k).toNat) :: rest))) : W p l e R s m args below meth c H locs cells slots Q (F0 m pc ls (.ref (ad o) :: rest)) :=
  r_get X hw (mSh_lt hs (Nat.lt_of_lt_of_le F.2.2.2.2 (by decide))) hs F hlk hdg (by rw [mFv_d hft]; exact kk)
/-- the words that a put wants of a class -/
def mFp (ci k : Nat) (T : u_T) (N : Nat) (ty0 : Nat → FieldType) : Prop := (∀ k, k < N → parseFieldDescriptor (T k).2.2.1 = some (ty0 k)) ∧ (∀ a, a < N → ∀ b, b < N → a ≠ b → (T a).2.1 ≠ (T b).2.1) ∧ (T k).2.2.2 = false
theorem r_put {o ci k index N len : Nat} {C : String} {T : u_T} {ty0 : Nat → FieldType} {v : Value} (z : Int) (X : mCx p m c cc nL s args own meth D cy ret) (hw : mWd D cy ad bs md n σ s.heap H locs) (ho : o < n) (hs : mSh o = (ci, len)) (F : mFd ci k C T N) (P : mFp ci k T N ty0) (hn : narrow (ty0 k) v = v) (hfit : fits (ty0 k) v = true) (hv : mFv ad md (mup1 (σ o) k z) ci o k = v) (hlk : Cond.fieldLink own index (T k).1 (T k).2.1 (T k).2.2.1 ∈ lw_g) (hdg : decode cc pc = .ok (.putfield index, 3))
    (kk : ∀ (H1 : Heap) (locs1 : List Loc), mWd D cy ad bs md n (mup σ o k z) s.heap H1 locs1 → W p l e R s m args below meth c H1 locs1 cells slots Q (F0 m (pc + 3) ls rest)) : W p l e R s m args below meth c H locs cells slots Q (F0 m pc ls (v :: .ref (ad o) :: rest)) := by
  obtain ⟨⟨hx, hb, -, hown, hts⟩, hK, -⟩ := X
  obtain ⟨h1, h2, h3, h4, h5⟩ := F
  obtain ⟨p1, p2, p3⟩ := P
  refine va_put hx hb hts h2 ty0 p1 p2 hown hK hw.1 hw.2.1 hw.2.2.1 o (by rw [mWs_at ho, mCell_o hs h5]) h1 k h3 (hts _ hlk) (fun _ h => h) p3 (p1 k h3) hn hfit (by rw [mFs_len]; exact h4) hdg (fun H1 locs1 a1 a2 a3 => ?_)
  have e : (mWs cy ad md n σ).set o (ad o, .inr (ci, (mFs ad md (σ o) ci o).set k v)) = mWs cy ad md n (mup σ o k z) := by
    rw [← hv]
    have e3 : (mFs ad md (σ o) ci o).set k (mFv ad md (mup1 (σ o) k z) ci o k) = mFs ad md (mup1 (σ o) k z) ci o := mFs_set
    rw [e3]
    have e4 : ((.inr (ci, mFs ad md (mup1 (σ o) k z) ci o)) : va_E) = mCell cy ad md (mup1 (σ o) k z) o := (mCell_o hs h5).symm
    rw [e4]
    exact mWs_set (mup1 (σ o) k z)
  rw [e] at a1 a2
  exact kk H1 locs1 ⟨a1, a2, a3, hw.2.2.2⟩
theorem mI_nat (n : Nat) : Int32.ofNat n = mI n := by
  first | exact (Int32.ofInt_eq_ofNat).symm | rfl | (apply mI_ext; rw [mI_toInt, Int32.toInt_ofNat']; rfl)
theorem mb01 {z : Int} (h : mw z = 0 ∨ mw z = 1) : narrow .boolean (.int (mI z)) = .int (mI z) ∧ fits .boolean (.int (mI z)) = true := by
  have e : mI z = 0 ∨ mI z = 1 := by
    rcases h with h | h
    · exact Or.inl (mI_ext (by rw [mI_toInt, h]; rfl))
    · exact Or.inr (mI_ext (by rw [mI_toInt, h]; rfl))
  rcases e with e | e <;> rw [e] <;> exact ⟨by decide, by decide⟩
theorem r_puti {o ci k index N len : Nat} {C : String} {T : u_T} {ty0 : Nat → FieldType} {z : Int} (X : mCx p m c cc nL s args own meth D cy ret) (hw : mWd D cy ad bs true mN σ s.heap H locs) (hs : mSh o = (ci, len)) (F : mFd ci k C T N) (P : mFp ci k T N ty0) (hft : (mFt ci).getD k 0 = 0) (hty : ty0 k = .int) (hlk : Cond.fieldLink own index (T k).1 (T k).2.1 (T k).2.2.1 ∈ lw_g) (hdg : decode cc pc = .ok (.putfield index, 3))
    (kk : ∀ (H1 : Heap) (locs1 : List Loc), mWd D cy ad bs true mN (mup σ o k z) s.heap H1 locs1 → W p l e R s m args below meth c H1 locs1 cells slots Q (F0 m (pc + 3) ls rest)) : W p l e R s m args below meth c H locs cells slots Q (F0 m pc ls (.int (mI z) :: .ref (ad o) :: rest)) :=
  r_put z X hw (mSh_lt hs (Nat.lt_of_lt_of_le F.2.2.2.2 (by decide))) hs F P (by rw [hty]; exact vp_nar_int _) (by rw [hty]; rfl) (by rw [mFv_i hft]; simp [mup1]) hlk hdg kk
theorem r_putz {o ci k index N len : Nat} {C : String} {T : u_T} {ty0 : Nat → FieldType} {z : Int} {M : Option (Int × mMem)} {w : Int × mMem} (X : mCx p m c cc nL s args own meth D cy ret) (hw : mWd D cy ad bs true mN σ s.heap H locs) (hs : mSh o = (ci, len)) (F : mFd ci k C T N) (P : mFp ci k T N ty0) (hft : (mFt ci).getD k 0 = 0) (hty : ty0 k = .boolean) (hlk : Cond.fieldLink own index (T k).1 (T k).2.1 (T k).2.2.1 ∈ lw_g) (hdg : decode cc pc = .ok (.putfield index, 3)) (hf : (if mw z = 0 ∨ mw z = 1 then M else none) = some w)
    (kk : M = some w → ∀ (H1 : Heap) (locs1 : List Loc), mWd D cy ad bs true mN (mup σ o k z) s.heap H1 locs1 → W p l e R s m args below meth c H1 locs1 cells slots Q (F0 m (pc + 3) ls rest)) : W p l e R s m args below meth c H locs cells slots Q (F0 m pc ls (.int (mI z) :: .ref (ad o) :: rest)) := by
  by_cases h : mw z = 0 ∨ mw z = 1
  · rw [if_pos h] at hf
    exact r_put z X hw (mSh_lt hs (Nat.lt_of_lt_of_le F.2.2.2.2 (by decide))) hs F P (by rw [hty]; exact (mb01 h).1) (by rw [hty]; exact (mb01 h).2) (by rw [mFv_i hft]; simp [mup1]) hlk hdg (kk hf)
  · rw [if_neg h] at hf
    cases hf
theorem r_putl {o ci k index N len : Nat} {C : String} {T : u_T} {ty0 : Nat → FieldType} {z : Int} (X : mCx p m c cc nL s args own meth D cy ret) (hw : mWd D cy ad bs true mN σ s.heap H locs) (hs : mSh o = (ci, len)) (F : mFd ci k C T N) (P : mFp ci k T N ty0) (hft : (mFt ci).getD k 0 = 1) (hty : ty0 k = .long) (hlk : Cond.fieldLink own index (T k).1 (T k).2.1 (T k).2.2.1 ∈ lw_g) (hdg : decode cc pc = .ok (.putfield index, 3))
    (kk : ∀ (H1 : Heap) (locs1 : List Loc), mWd D cy ad bs true mN (mup σ o k z) s.heap H1 locs1 → W p l e R s m args below meth c H1 locs1 cells slots Q (F0 m (pc + 3) ls rest)) : W p l e R s m args below meth c H locs cells slots Q (F0 m pc ls (.long (mL z) :: .ref (ad o) :: rest)) :=
  r_put z X hw (mSh_lt hs (Nat.lt_of_lt_of_le F.2.2.2.2 (by decide))) hs F P (by rw [hty]; rfl) (by rw [hty]; rfl) (by rw [mFv_l hft]; simp [mup1]) hlk hdg kk
theorem r_putd {o ci k index N len : Nat} {C : String} {T : u_T} {ty0 : Nat → FieldType} {q : Nat} {tn : String} (X : mCx p m c cc nL s args own meth D cy ret) (hw : mWd D cy ad bs true mN σ s.heap H locs) (hs : mSh o = (ci, len)) (F : mFd ci k C T N) (P : mFp ci k T N ty0) (hft : (mFt ci).getD k 0 = 3) (hty : ty0 k = .object tn) (hlk : Cond.fieldLink own index (T k).1 (T k).2.1 (T k).2.2.1 ∈ lw_g) (hdg : decode cc pc = .ok (.putfield index, 3))
    (kk : ∀ (H1 : Heap) (locs1 : List Loc), mWd D cy ad bs true mN (mup σ o k (q : Int)) s.heap H1 locs1 → W p l e R s m args below meth c H1 locs1 cells slots Q (F0 m (pc + 3) ls rest)) : W p l e R s m args below meth c H locs cells slots Q (F0 m pc ls (.ref (ad q) :: .ref (ad o) :: rest)) :=
  r_put (q : Int) X hw (mSh_lt hs (Nat.lt_of_lt_of_le F.2.2.2.2 (by decide))) hs F P (by rw [hty]; rfl) (by rw [hty]; rfl) (by rw [mFv_d hft]; simp [mup1]) hlk hdg kk
theorem r_iald {o len : Nat} {i : Int} {M : Option (Int × mMem)} {w : Int × mMem} (N : Int) (hN : (len : Int) = N) (X : mCx p m c cc nL s args own meth D cy ret) (hw : mWd D cy ad bs true mN σ s.heap H locs) (hs : mSh o = (13, len)) (hdg : decode cc pc = .ok (.iaload, 1)) (hf : (if 0 ≤ mw i ∧ mw i < N then M else none) = some w)
    (kk : M = some w → W p l e R s m args below meth c H locs cells slots Q (F0 m (pc + 1) ls (.int (mI (σ o (mw i).toNat)) :: rest))) : W p l e R s m args below meth c H locs cells slots Q (F0 m pc ls (.int (mI i) :: .ref (ad o) :: rest)) := by
  subst hN
  by_cases h : 0 ≤ mw i ∧ mw i < (len : Int)
  · rw [if_pos h] at hf
    obtain ⟨⟨hx, hb, -, hown, hts⟩, hK, -⟩ := X
    have hi := mI_in h
    refine va_iald hx hb hK hw.1 o 0 (by rw [mWs_at (mSh_lt hs (by decide)), mCell_i hs]) rfl hi.1 hdg ?_
    rw [hi.2]
    exact kk hf
  · rw [if_neg h] at hf
    cases hf
theorem r_zald {o len : Nat} {i : Int} {M : Option (Int × mMem)} {w : Int × mMem} (N : Int) (hN : (len : Int) = N) (X : mCx p m c cc nL s args own meth D cy ret) (hw : mWd D cy ad bs true mN σ s.heap H locs) (hs : mSh o = (15, len)) (hdg : decode cc pc = .ok (.baload, 1)) (hf : (if 0 ≤ mw i ∧ mw i < N then M else none) = some w)
    (kk : M = some w → W p l e R s m args below meth c H locs cells slots Q (F0 m (pc + 1) ls (.int (mI (σ o (mw i).toNat)) :: rest))) : W p l e R s m args below meth c H locs cells slots Q (F0 m pc ls (.int (mI i) :: .ref (ad o) :: rest)) := by
  subst hN
  by_cases h : 0 ≤ mw i ∧ mw i < (len : Int)
  · rw [if_pos h] at hf
    obtain ⟨⟨hx, hb, -, hown, hts⟩, hK, -⟩ := X
    have hi := mI_in h
    refine va_zald hx hb hK hw.1 o 2 (by rw [mWs_at (mSh_lt hs (by decide)), mCell_z hs]) rfl hi.1 hdg ?_
    rw [hi.2]
    exact kk hf
  · rw [if_neg h] at hf
    cases hf
theorem r_lald {o len : Nat} {i : Int} {M : Option (Int × mMem)} {w : Int × mMem} (N : Int) (hN : (len : Int) = N) (X : mCx p m c cc nL s args own meth D cy ret) (hw : mWd D cy ad bs true mN σ s.heap H locs) (hs : mSh o = (14, len)) (hdg : decode cc pc = .ok (.laload, 1)) (hf : (if 0 ≤ mw i ∧ mw i < N then M else none) = some w)
    (kk : M = some w → W p l e R s m args below meth c H locs cells slots Q (F0 m (pc + 1) ls (.long (mL (σ o (mw i).toNat)) :: rest))) : W p l e R s m args below meth c H locs cells slots Q (F0 m pc ls (.int (mI i) :: .ref (ad o) :: rest)) := by
  subst hN
  by_cases h : 0 ≤ mw i ∧ mw i < (len : Int)
  · rw [if_pos h] at hf
    obtain ⟨⟨hx, hb, -, hown, hts⟩, hK, -⟩ := X
    have hi := mI_in h
    refine va_lald hx hb hK hw.1 o 1 (by rw [mWs_at (mSh_lt hs (by decide)), mCell_l hs]) rfl hi.1 hdg ?_
    rw [hi.2]
    exact kk hf
  · rw [if_neg h] at hf
    cases hf
theorem r_iast {o len : Nat} {i z : Int} {M : Option (Int × mMem)} {w : Int × mMem} (N : Int) (hN : (len : Int) = N) (X : mCx p m c cc nL s args own meth D cy ret) (hw : mWd D cy ad bs true mN σ s.heap H locs) (hs : mSh o = (13, len)) (hdg : decode cc pc = .ok (.iastore, 1)) (hf : (if 0 ≤ mw i ∧ mw i < N then M else none) = some w)
    (kk : M = some w → ∀ (H1 : Heap) (locs1 : List Loc), mWd D cy ad bs true mN (mup σ o (mw i).toNat z) s.heap H1 locs1 → W p l e R s m args below meth c H1 locs1 cells slots Q (F0 m (pc + 1) ls rest)) : W p l e R s m args below meth c H locs cells slots Q (F0 m pc ls (.int (mI z) :: .int (mI i) :: .ref (ad o) :: rest)) := by
  subst hN
  by_cases h : 0 ≤ mw i ∧ mw i < (len : Int)
  · rw [if_pos h] at hf
    obtain ⟨⟨hx, hb, -, hown, hts⟩, hK, -⟩ := X
    have hi := (mI_in h)
    refine va_iast hx hb hK hw.1 hw.2.1 hw.2.2.1 o 0 (by rw [mWs_at (mSh_lt hs (by decide)), mCell_i hs]) rfl hi.1 hdg (fun H1 locs1 a1 a2 a3 => ?_)
    rw [hi.2] at a1 a2
    have e : upd (fun j => mI (σ o j)) (mw i).toNat (mI z) = fun j => mI (mup1 (σ o) (mw i).toNat z j) := by
      funext j
      by_cases hj : j = (mw i).toNat
      · simp [upd, mup1, hj]
      · simp [upd, mup1, hj]
    rw [e] at a1 a2
    rw [← mCell_i (cy := cy) (ad := ad) (md := true) (r := mup1 (σ o) (mw i).toNat z) hs, mWs_set] at a1 a2
    exact kk hf H1 locs1 ⟨a1, a2, a3, hw.2.2.2⟩
  · rw [if_neg h] at hf
    cases hf
theorem r_zast {o len : Nat} {i z : Int} {M : Option (Int × mMem)} {w : Int × mMem} (N : Int) (hN : (len : Int) = N) (X : mCx p m c cc nL s args own meth D cy ret) (hw : mWd D cy ad bs true mN σ s.heap H locs) (hs : mSh o = (15, len)) (hdg : decode cc pc = .ok (.bastore, 1)) (hf : (if 0 ≤ mw i ∧ mw i < N ∧ (mw z = 0 ∨ mw z = 1) then M else none) = some w)
    (kk : M = some w → ∀ (H1 : Heap) (locs1 : List Loc), mWd D cy ad bs true mN (mup σ o (mw i).toNat z) s.heap H1 locs1 → W p l e R s m args below meth c H1 locs1 cells slots Q (F0 m (pc + 1) ls rest)) : W p l e R s m args below meth c H locs cells slots Q (F0 m pc ls (.int (mI z) :: .int (mI i) :: .ref (ad o) :: rest)) := by
  subst hN
  by_cases h : 0 ≤ mw i ∧ mw i < (len : Int) ∧ (mw z = 0 ∨ mw z = 1)
  · rw [if_pos h] at hf
    obtain ⟨⟨hx, hb, -, hown, hts⟩, hK, -⟩ := X
    have hi := (mI_in ⟨h.1, h.2.1⟩)
    refine va_zast hx hb hK hw.1 hw.2.1 hw.2.2.1 o 2 (by rw [mWs_at (mSh_lt hs (by decide)), mCell_z hs]) rfl hi.1 hdg (fun H1 locs1 a1 a2 a3 => ?_)
    rw [hi.2] at a1 a2
    have hz : vp_nar .boolean (mI z) = mI z := by
      unfold vp_nar
      rw [(mb01 h.2.2).1]
    rw [hz] at a1 a2
    have e : upd (fun j => mI (σ o j)) (mw i).toNat (mI z) = fun j => mI (mup1 (σ o) (mw i).toNat z j) := by
      funext j
      by_cases hj : j = (mw i).toNat
      · simp [upd, mup1, hj]
      · simp [upd, mup1, hj]
    rw [e] at a1 a2
    rw [← mCell_z (cy := cy) (ad := ad) (md := true) (r := mup1 (σ o) (mw i).toNat z) hs, mWs_set] at a1 a2
    exact kk hf H1 locs1 ⟨a1, a2, a3, hw.2.2.2⟩
  · rw [if_neg h] at hf
    cases hf
theorem r_last {o len : Nat} {i z : Int} {M : Option (Int × mMem)} {w : Int × mMem} (N : Int) (hN : (len : Int) = N) (X : mCx p m c cc nL s args own meth D cy ret) (hw : mWd D cy ad bs true mN σ s.heap H locs) (hs : mSh o = (14, len)) (hdg : decode cc pc = .ok (.lastore, 1)) (hf : (if 0 ≤ mw i ∧ mw i < N then M else none) = some w)
    (kk : M = some w → ∀ (H1 : Heap) (locs1 : List Loc), mWd D cy ad bs true mN (mup σ o (mw i).toNat z) s.heap H1 locs1 → W p l e R s m args below meth c H1 locs1 cells slots Q (F0 m (pc + 1) ls rest)) : W p l e R s m args below meth c H locs cells slots Q (F0 m pc ls (.long (mL z) :: .int (mI i) :: .ref (ad o) :: rest)) := by
  subst hN
  by_cases h : 0 ≤ mw i ∧ mw i < (len : Int)
  · rw [if_pos h] at hf
    obtain ⟨⟨hx, hb, -, hown, hts⟩, hK, -⟩ := X
    have hi := (mI_in h)
    refine va_last hx hb hK hw.1 hw.2.1 hw.2.2.1 o 1 (by rw [mWs_at (mSh_lt hs (by decide)), mCell_l hs]) rfl hi.1 hdg (fun H1 locs1 a1 a2 a3 => ?_)
    rw [hi.2] at a1 a2
    have e : vp_updL (fun j => mL (σ o j)) (mw i).toNat (mL z) = fun j => mL (mup1 (σ o) (mw i).toNat z j) := by
      funext j
      by_cases hj : j = (mw i).toNat
      · simp [vp_updL, mup1, hj]
      · simp [vp_updL, mup1, hj]
    rw [e] at a1 a2
    rw [← mCell_l (cy := cy) (ad := ad) (md := true) (r := mup1 (σ o) (mw i).toNat z) hs, mWs_set] at a1 a2
    exact kk hf H1 locs1 ⟨a1, a2, a3, hw.2.2.2⟩
  · rw [if_neg h] at hf
    cases hf
theorem r_ileni {o len : Nat} (N : Int) (hN : (len : Int) = N) (X : mCx p m c cc nL s args own meth D cy ret) (hw : mWd D cy ad bs true mN σ s.heap H locs) (hs : mSh o = (13, len)) (hdg : decode cc pc = .ok (.arraylength, 1))
    (kk : W p l e R s m args below meth c H locs cells slots Q (F0 m (pc + 1) ls (.int (mI N) :: rest))) : W p l e R s m args below meth c H locs cells slots Q (F0 m pc ls (.ref (ad o) :: rest)) := by
  subst hN
  obtain ⟨⟨hx, hb, -, hown, hts⟩, hK, -⟩ := X
  exact va_alen hx hb hK hw.1 o 0 (by rw [mWs_at (mSh_lt hs (by decide)), mCell_i hs]) (v := mI (len : Int)) (ty := .int) rfl (mI_nat len) hdg kk
theorem r_zleni {o len : Nat} (N : Int) (hN : (len : Int) = N) (X : mCx p m c cc nL s args own meth D cy ret) (hw : mWd D cy ad bs true mN σ s.heap H locs) (hs : mSh o = (15, len)) (hdg : decode cc pc = .ok (.arraylength, 1))
    (kk : W p l e R s m args below meth c H locs cells slots Q (F0 m (pc + 1) ls (.int (mI N) :: rest))) : W p l e R s m args below meth c H locs cells slots Q (F0 m pc ls (.ref (ad o) :: rest)) := by
  subst hN
  obtain ⟨⟨hx, hb, -, hown, hts⟩, hK, -⟩ := X
  exact va_alen hx hb hK hw.1 o 2 (by rw [mWs_at (mSh_lt hs (by decide)), mCell_z hs]) (v := mI (len : Int)) (ty := .boolean) rfl (mI_nat len) hdg kk
theorem r_aald {o len : Nat} {i : Int} {M : Option (Int × mMem)} {w : Int × mMem} (N : Int) (hN : (len : Int) = N) (X : mCx p m c cc nL s args own meth D cy ret) (hw : mWd D cy ad bs true mN σ s.heap H locs) (hs : mSh o = (16, len)) (hdg : decode cc pc = .ok (.aaload, 1)) (hf : (if 0 ≤ mw i ∧ mw i < N then M else none) = some w)
    (kk : (mw i).toNat < len → M = some w → W p l e R s m args below meth c H locs cells slots Q (F0 m (pc + 1) ls (.ref (ad (o + 1 + (mw i).toNat)) :: rest))) : W p l e R s m args below meth c H locs cells slots Q (F0 m pc ls (.int (mI i) :: .ref (ad o) :: rest)) := by
  subst hN
  by_cases h : 0 ≤ mw i ∧ mw i < (len : Int)
  · rw [if_pos h] at hf
    obtain ⟨⟨hx, hb, -, hown, hts⟩, hK, -⟩ := X
    have hi := mI_in h
    have hlt : (mw i).toNat < len := by omega
    have ha : (mWs cy ad true mN σ)[o]? = some (ad o, .inl (cy 3, len, .inr (.inr (.inr (.inr (fun i => if i < len then some (ad (o + 1 + i)) else none)))))) := by rw [mWs_at (mSh_lt hs (by decide)), mCell_a hs]
    have hc := hw.1 o _ ha
    refine W.aald (v := .ref (ad (o + 1 + (mw i).toNat))) (ty := .array .int) hx hb hc ((hK.2 3 _ rfl).1 len (fun j => va_rf (if j < len then some (ad (o + 1 + j)) else none))) rfl (fun q => by cases q) (by show ¬ (_ ∨ (arrV _ _ _).slots.size ≤ _); rw [arrV_size]; exact hi.1) ?_ rfl rfl hdg (kk hlt hf)
    show (arrV _ _ _).slots[_]? = _
    rw [hi.2, arrV_read _ _ hlt]
    simp [hlt, va_rf]
  · rw [if_neg h] at hf
    cases hf
theorem r_copy {o1 o2 n1 n2 index : Nat} {sp dp k : Int} {M : Option (Int × mMem)} {w : Int × mMem} (N1 N2 : Int) (hN1 : (n1 : Int) = N1) (hN2 : (n2 : Int) = N2) (X : mCx p m c cc nL s args own meth D cy ret) (hw : mWd D cy ad bs true mN σ s.heap H locs) (hs1 : mSh o1 = (13, n1)) (hs2 : mSh o2 = (13, n2)) (hlk : Cond.methodLink own index arraycopyName ∈ lw_g) (hnat : Cond.native arraycopyName ∈ lw_g) (hstat : Cond.static arraycopyName ∈ lw_g) (hini : Cond.initialized "java/lang/System" ∈ lw_g)
    (hml : ls.size = nL) (hframes : 1 ≤ R.frames) (hlocals : (rest.map fun v => v.category).sum + (nativeFrameWords "java/lang/System" "arraycopy" 5 + 11) ≤ R.locals) (hdg : decode cc pc = .ok (.invokestatic index, 3)) (hf : (if 0 ≤ mw sp ∧ 0 ≤ mw dp ∧ 0 ≤ mw k ∧ mw sp + mw k ≤ N1 ∧ mw dp + mw k ≤ N2 then M else none) = some w)
    (kk : M = some w → ∀ (H1 : Heap) (locs1 : List Loc), mWd D cy ad bs true mN (mupo σ o2 (mcpy (σ o1) (σ o2) (mw sp).toNat (mw dp).toNat (mw k).toNat)) s.heap H1 locs1 → W p l e R s m args below meth c H1 locs1 cells slots Q (F0 m (pc + 3) ls rest)) : W p l e R s m args below meth c H locs cells slots Q (F0 m pc ls (.int (mI k) :: .int (mI dp) :: .ref (ad o2) :: .int (mI sp) :: .ref (ad o1) :: rest)) := by
  subst hN1
  subst hN2
  by_cases h : 0 ≤ mw sp ∧ 0 ≤ mw dp ∧ 0 ≤ mw k ∧ mw sp + mw k ≤ (n1 : Int) ∧ mw dp + mw k ≤ (n2 : Int)
  · rw [if_pos h] at hf
    obtain ⟨⟨hx, hb, hm, hown, hts⟩, hK, -⟩ := X
    have t : ∀ z : Int, (mI z).toNatClampNeg = (mw z).toNat := fun z => by
      show (mI z).toInt.toNat = _
      rw [mI_toInt]
    have nn : ∀ z : Int, 0 ≤ mw z → ¬ mI z < 0 := fun z hz q => by
      rw [mI_lt0] at q
      omega
    refine va_copyi hx hb (hm.trans hml.symm) hown (hts _ hlk) (hts _ hnat) (hts _ hstat) (hts _ hini) hK hw.1 hw.2.1 hw.2.2.1 o1 o2 0 0 (ty := .int) (by rw [mWs_at (mSh_lt hs1 (by decide)), mCell_i hs1]) (by rw [mWs_at (mSh_lt hs2 (by decide)), mCell_i hs2]) rfl rfl rfl (nn _ h.1) (nn _ h.2.1) (nn _ h.2.2.1) (by rw [t, t]; omega) (by rw [t, t]; omega) (fun i _ => rfl) hframes hlocals hdg (fun H1 locs1 a1 a2 a3 => ?_)
    rw [t, t, t] at a1 a2
    have e : va_cpy (fun j => mI (σ o1 j)) (fun j => mI (σ o2 j)) (mw sp).toNat (mw dp).toNat (mw k).toNat = fun j => mI (mcpy (σ o1) (σ o2) (mw sp).toNat (mw dp).toNat (mw k).toNat j) := by
      funext j
      unfold va_cpy mcpy
      split <;> rfl
    rw [e] at a1 a2
    rw [← mCell_i (cy := cy) (ad := ad) (md := true) (r := mcpy (σ o1) (σ o2) (mw sp).toNat (mw dp).toNat (mw k).toNat) hs2, mWs_set] at a1 a2
    exact kk hf H1 locs1 ⟨a1, a2, a3, hw.2.2.2⟩
  · rw [if_neg h] at hf
    cases hf
theorem r_iadd {a b : Int} (X : mCx p m c cc nL s args own meth D cy ret) (hdg : decode cc pc = .ok (.iadd, 1)) (kk : W p l e R s m args below meth c H locs cells slots Q (F0 m (pc + 1) ls (.int (mI (a + b)) :: rest))) : W p l e R s m args below meth c H locs cells slots Q (F0 m pc ls (.int (mI b) :: .int (mI a) :: rest)) :=
  lv_iadd X.1.1 X.1.2.1 hdg (by rw [mI_add]; exact kk)
theorem r_isub {a b : Int} (X : mCx p m c cc nL s args own meth D cy ret) (hdg : decode cc pc = .ok (.isub, 1)) (kk : W p l e R s m args below meth c H locs cells slots Q (F0 m (pc + 1) ls (.int (mI (a - b)) :: rest))) : W p l e R s m args below meth c H locs cells slots Q (F0 m pc ls (.int (mI b) :: .int (mI a) :: rest)) :=
  lv_isub X.1.1 X.1.2.1 hdg (by rw [mI_sub]; exact kk)
theorem r_imul {a b : Int} (X : mCx p m c cc nL s args own meth D cy ret) (hdg : decode cc pc = .ok (.imul, 1)) (kk : W p l e R s m args below meth c H locs cells slots Q (F0 m (pc + 1) ls (.int (mI (a * b)) :: rest))) : W p l e R s m args below meth c H locs cells slots Q (F0 m pc ls (.int (mI b) :: .int (mI a) :: rest)) :=
  lv_imul X.1.1 X.1.2.1 hdg (by rw [mI_mul]; exact kk)
theorem r_ladd {a b : Int} (X : mCx p m c cc nL s args own meth D cy ret) (hdg : decode cc pc = .ok (.ladd, 1)) (kk : W p l e R s m args below meth c H locs cells slots Q (F0 m (pc + 1) ls (.long (mL (a + b)) :: rest))) : W p l e R s m args below meth c H locs cells slots Q (F0 m pc ls (.long (mL b) :: .long (mL a) :: rest)) :=
  lv_ladd X.1.1 X.1.2.1 hdg (by rw [mL_add]; exact kk)
theorem r_lsub {a b : Int} (X : mCx p m c cc nL s args own meth D cy ret) (hdg : decode cc pc = .ok (.lsub, 1)) (kk : W p l e R s m args below meth c H locs cells slots Q (F0 m (pc + 1) ls (.long (mL (a - b)) :: rest))) : W p l e R s m args below meth c H locs cells slots Q (F0 m pc ls (.long (mL b) :: .long (mL a) :: rest)) :=
  lv_lsub X.1.1 X.1.2.1 hdg (by rw [mL_sub]; exact kk)
theorem r_lmul {a b : Int} (X : mCx p m c cc nL s args own meth D cy ret) (hdg : decode cc pc = .ok (.lmul, 1)) (kk : W p l e R s m args below meth c H locs cells slots Q (F0 m (pc + 1) ls (.long (mL (a * b)) :: rest))) : W p l e R s m args below meth c H locs cells slots Q (F0 m pc ls (.long (mL b) :: .long (mL a) :: rest)) :=
  lv_lmul X.1.1 X.1.2.1 hdg (by rw [mL_mul]; exact kk)
theorem r_iand {a b : Int} (X : mCx p m c cc nL s args own meth D cy ret) (hdg : decode cc pc = .ok (.iand, 1)) (kk : W p l e R s m args below meth c H locs cells slots Q (F0 m (pc + 1) ls (.int (mI (mand a b)) :: rest))) : W p l e R s m args below meth c H locs cells slots Q (F0 m pc ls (.int (mI b) :: .int (mI a) :: rest)) :=
  lv_iand X.1.1 X.1.2.1 hdg (by rw [mand, mI_of] at kk; exact kk)
theorem r_ior {a b : Int} (X : mCx p m c cc nL s args own meth D cy ret) (hdg : decode cc pc = .ok (.ior, 1)) (kk : W p l e R s m args below meth c H locs cells slots Q (F0 m (pc + 1) ls (.int (mI (mor a b)) :: rest))) : W p l e R s m args below meth c H locs cells slots Q (F0 m pc ls (.int (mI b) :: .int (mI a) :: rest)) :=
  lv_ior X.1.1 X.1.2.1 hdg (by rw [mor, mI_of] at kk; exact kk)
theorem r_ixor {a b : Int} (X : mCx p m c cc nL s args own meth D cy ret) (hdg : decode cc pc = .ok (.ixor, 1)) (kk : W p l e R s m args below meth c H locs cells slots Q (F0 m (pc + 1) ls (.int (mI (mxor a b)) :: rest))) : W p l e R s m args below meth c H locs cells slots Q (F0 m pc ls (.int (mI b) :: .int (mI a) :: rest)) :=
  lv_ixor X.1.1 X.1.2.1 hdg (by rw [mxor, mI_of] at kk; exact kk)
theorem r_ishl {a b : Int} (X : mCx p m c cc nL s args own meth D cy ret) (hdg : decode cc pc = .ok (.ishl, 1)) (kk : W p l e R s m args below meth c H locs cells slots Q (F0 m (pc + 1) ls (.int (mI (mshl a b)) :: rest))) : W p l e R s m args below meth c H locs cells slots Q (F0 m pc ls (.int (mI b) :: .int (mI a) :: rest)) :=
  lv_ishl X.1.1 X.1.2.1 hdg (by rw [mshl, mI_of] at kk; exact kk)
theorem r_ishr {a b : Int} (X : mCx p m c cc nL s args own meth D cy ret) (hdg : decode cc pc = .ok (.ishr, 1)) (kk : W p l e R s m args below meth c H locs cells slots Q (F0 m (pc + 1) ls (.int (mI (mshr a b)) :: rest))) : W p l e R s m args below meth c H locs cells slots Q (F0 m pc ls (.int (mI b) :: .int (mI a) :: rest)) :=
  lv_ishr X.1.1 X.1.2.1 hdg (by rw [mshr, mI_of] at kk; exact kk)
theorem r_land {a b : Int} (X : mCx p m c cc nL s args own meth D cy ret) (hdg : decode cc pc = .ok (.land, 1)) (kk : W p l e R s m args below meth c H locs cells slots Q (F0 m (pc + 1) ls (.long (mL (mland a b)) :: rest))) : W p l e R s m args below meth c H locs cells slots Q (F0 m pc ls (.long (mL b) :: .long (mL a) :: rest)) :=
  lv_land X.1.1 X.1.2.1 hdg (by rw [mland, mL_of] at kk; exact kk)
theorem r_lor {a b : Int} (X : mCx p m c cc nL s args own meth D cy ret) (hdg : decode cc pc = .ok (.lor, 1)) (kk : W p l e R s m args below meth c H locs cells slots Q (F0 m (pc + 1) ls (.long (mL (mlor a b)) :: rest))) : W p l e R s m args below meth c H locs cells slots Q (F0 m pc ls (.long (mL b) :: .long (mL a) :: rest)) :=
  lv_lor X.1.1 X.1.2.1 hdg (by rw [mlor, mL_of] at kk; exact kk)
theorem r_lxor {a b : Int} (X : mCx p m c cc nL s args own meth D cy ret) (hdg : decode cc pc = .ok (.lxor, 1)) (kk : W p l e R s m args below meth c H locs cells slots Q (F0 m (pc + 1) ls (.long (mL (mlxor a b)) :: rest))) : W p l e R s m args below meth c H locs cells slots Q (F0 m pc ls (.long (mL b) :: .long (mL a) :: rest)) :=
  lv_lxor X.1.1 X.1.2.1 hdg (by rw [mlxor, mL_of] at kk; exact kk)
theorem r_lshl {a b : Int} (X : mCx p m c cc nL s args own meth D cy ret) (hdg : decode cc pc = .ok (.lshl, 1)) (kk : W p l e R s m args below meth c H locs cells slots Q (F0 m (pc + 1) ls (.long (mL (mlshl a b)) :: rest))) : W p l e R s m args below meth c H locs cells slots Q (F0 m pc ls (.int (mI b) :: .long (mL a) :: rest)) :=
  lv_lshl X.1.1 X.1.2.1 hdg (by rw [mlshl, mL_of]) kk
theorem r_lshr {a b : Int} (X : mCx p m c cc nL s args own meth D cy ret) (hdg : decode cc pc = .ok (.lshr, 1)) (kk : W p l e R s m args below meth c H locs cells slots Q (F0 m (pc + 1) ls (.long (mL (mlshr a b)) :: rest))) : W p l e R s m args below meth c H locs cells slots Q (F0 m pc ls (.int (mI b) :: .long (mL a) :: rest)) :=
  lv_lshr X.1.1 X.1.2.1 hdg (by rw [mlshr, mL_of]) kk
theorem r_ineg {a : Int} (X : mCx p m c cc nL s args own meth D cy ret) (hdg : decode cc pc = .ok (.ineg, 1)) (kk : W p l e R s m args below meth c H locs cells slots Q (F0 m (pc + 1) ls (.int (mI (-a)) :: rest))) : W p l e R s m args below meth c H locs cells slots Q (F0 m pc ls (.int (mI a) :: rest)) :=
  lv_ineg X.1.1 X.1.2.1 hdg (by rw [mI_neg]; exact kk)
theorem r_lneg {a : Int} (X : mCx p m c cc nL s args own meth D cy ret) (hdg : decode cc pc = .ok (.lneg, 1)) (kk : W p l e R s m args below meth c H locs cells slots Q (F0 m (pc + 1) ls (.long (mL (-a)) :: rest))) : W p l e R s m args below meth c H locs cells slots Q (F0 m pc ls (.long (mL a) :: rest)) :=
  lv_lneg X.1.1 X.1.2.1 hdg (by rw [mL_neg]; exact kk)
theorem r_i2l {a : Int} (X : mCx p m c cc nL s args own meth D cy ret) (hdg : decode cc pc = .ok (.i2l, 1)) (kk : W p l e R s m args below meth c H locs cells slots Q (F0 m (pc + 1) ls (.long (mL (mw a)) :: rest))) : W p l e R s m args below meth c H locs cells slots Q (F0 m pc ls (.int (mI a) :: rest)) :=
  lv_i2l X.1.1 X.1.2.1 hdg (mI_i2l a) kk
theorem r_l2i {a : Int} (X : mCx p m c cc nL s args own meth D cy ret) (hdg : decode cc pc = .ok (.l2i, 1)) (kk : W p l e R s m args below meth c H locs cells slots Q (F0 m (pc + 1) ls (.int (mI a) :: rest))) : W p l e R s m args below meth c H locs cells slots Q (F0 m pc ls (.long (mL a) :: rest)) :=
  lv_l2i X.1.1 X.1.2.1 hdg (mL_l2i a) kk
theorem r_idiv {a b : Int} {M : Option (Int × mMem)} {w9 : Int × mMem} (X : mCx p m c cc nL s args own meth D cy ret) (hdg : decode cc pc = .ok (.idiv, 1)) (hf : (if mw b = 0 then none else M) = some w9) (kk : M = some w9 → W p l e R s m args below meth c H locs cells slots Q (F0 m (pc + 1) ls (.int (mI ((mw a).tdiv (mw b))) :: rest))) : W p l e R s m args below meth c H locs cells slots Q (F0 m pc ls (.int (mI b) :: .int (mI a) :: rest)) := by
  by_cases h : mw b = 0
  · rw [if_pos h] at hf
    cases hf
  · rw [if_neg h] at hf
    exact lv_idiv X.1.1 X.1.2.1 hdg (fun q => h (mI_eq0.mp q)) (by rw [mI_div]; exact kk hf)
theorem r_irem {a b : Int} {M : Option (Int × mMem)} {w9 : Int × mMem} (X : mCx p m c cc nL s args own meth D cy ret) (hdg : decode cc pc = .ok (.irem, 1)) (hf : (if mw b = 0 then none else M) = some w9) (kk : M = some w9 → W p l e R s m args below meth c H locs cells slots Q (F0 m (pc + 1) ls (.int (mI ((mw a).tmod (mw b))) :: rest))) : W p l e R s m args below meth c H locs cells slots Q (F0 m pc ls (.int (mI b) :: .int (mI a) :: rest)) := by
  by_cases h : mw b = 0
  · rw [if_pos h] at hf
    cases hf
  · rw [if_neg h] at hf
    exact lv_irem X.1.1 X.1.2.1 hdg (fun q => h (mI_eq0.mp q)) (by rw [mI_rem]; exact kk hf)
theorem r_ldiv {a b : Int} {M : Option (Int × mMem)} {w9 : Int × mMem} (X : mCx p m c cc nL s args own meth D cy ret) (hdg : decode cc pc = .ok (.ldiv, 1)) (hf : (if mwl b = 0 then none else M) = some w9) (kk : M = some w9 → W p l e R s m args below meth c H locs cells slots Q (F0 m (pc + 1) ls (.long (mL ((mwl a).tdiv (mwl b))) :: rest))) : W p l e R s m args below meth c H locs cells slots Q (F0 m pc ls (.long (mL b) :: .long (mL a) :: rest)) := by
  by_cases h : mwl b = 0
  · rw [if_pos h] at hf
    cases hf
  · rw [if_neg h] at hf
    exact lv_ldiv X.1.1 X.1.2.1 hdg (fun q => h (mL_eq0.mp q)) (by rw [mL_div]; exact kk hf)
theorem r_lrem {a b : Int} {M : Option (Int × mMem)} {w9 : Int × mMem} (X : mCx p m c cc nL s args own meth D cy ret) (hdg : decode cc pc = .ok (.lrem, 1)) (hf : (if mwl b = 0 then none else M) = some w9) (kk : M = some w9 → W p l e R s m args below meth c H locs cells slots Q (F0 m (pc + 1) ls (.long (mL ((mwl a).tmod (mwl b))) :: rest))) : W p l e R s m args below meth c H locs cells slots Q (F0 m pc ls (.long (mL b) :: .long (mL a) :: rest)) := by
  by_cases h : mwl b = 0
  · rw [if_pos h] at hf
    cases hf
  · rw [if_neg h] at hf
    exact lv_lrem X.1.1 X.1.2.1 hdg (fun q => h (mL_eq0.mp q)) (by rw [mL_rem]; exact kk hf)
theorem r_if_eq {a : Int} {off : Int} {tgt : Nat} {M1 M2 : Option (Int × mMem)} {z : Int × mMem} (X : mCx p m c cc nL s args own meth D cy ret) (hdg : decode cc pc = .ok (.ifCond .eq off, 3)) (ht : (pc : Int) + off = (tgt : Int)) (hf : (if mw a = 0 then M1 else M2) = some z)
    (k1 : mw a = 0 → M1 = some z → W p l e R s m args below meth c H locs cells slots Q (F0 m tgt ls rest)) (k2 : ¬ (mw a = 0) → M2 = some z → W p l e R s m args below meth c H locs cells slots Q (F0 m (pc + 3) ls rest)) : W p l e R s m args below meth c H locs cells slots Q (F0 m pc ls (.int (mI a) :: rest)) :=
  lv_if_eq X.1.1 X.1.2.1 hdg ht (fun h => have q := mI_eq0.mp h; k1 q (by rw [if_pos q] at hf; exact hf)) (fun h => have q := fun q => h (mI_eq0.mpr q); k2 q (by rw [if_neg q] at hf; exact hf))
theorem r_icmp_eq {a b : Int} {off : Int} {tgt : Nat} {M1 M2 : Option (Int × mMem)} {z : Int × mMem} (X : mCx p m c cc nL s args own meth D cy ret) (hdg : decode cc pc = .ok (.if_icmp .eq off, 3)) (ht : (pc : Int) + off = (tgt : Int)) (hf : (if mw a = mw b then M1 else M2) = some z)
    (k1 : mw a = mw b → M1 = some z → W p l e R s m args below meth c H locs cells slots Q (F0 m tgt ls rest)) (k2 : ¬ (mw a = mw b) → M2 = some z → W p l e R s m args below meth c H locs cells slots Q (F0 m (pc + 3) ls rest)) : W p l e R s m args below meth c H locs cells slots Q (F0 m pc ls (.int (mI b) :: .int (mI a) :: rest)) :=
  lv_icmp_eq X.1.1 X.1.2.1 hdg ht (fun h => have q := mI_eq.mp h; k1 q (by rw [if_pos q] at hf; exact hf)) (fun h => have q := fun q => h (mI_eq.mpr q); k2 q (by rw [if_neg q] at hf; exact hf))
theorem r_lcmp_eq {a b : Int} {off : Int} {tgt : Nat} {M1 M2 : Option (Int × mMem)} {z : Int × mMem} (X : mCx p m c cc nL s args own meth D cy ret) (hdg0 : decode cc pc = .ok (.lcmp, 1)) (hdg : decode cc (pc + 1) = .ok (.ifCond .eq off, 3)) (ht : ((pc + 1 : Nat) : Int) + off = (tgt : Int)) (hf : (if mwl a = mwl b then M1 else M2) = some z)
    (k1 : mwl a = mwl b → M1 = some z → W p l e R s m args below meth c H locs cells slots Q (F0 m tgt ls rest)) (k2 : ¬ (mwl a = mwl b) → M2 = some z → W p l e R s m args below meth c H locs cells slots Q (F0 m (pc + 4) ls rest)) : W p l e R s m args below meth c H locs cells slots Q (F0 m pc ls (.long (mL b) :: .long (mL a) :: rest)) :=
  W.lcmp X.1.1 X.1.2.1 hdg0 (lv_if_eq X.1.1 X.1.2.1 hdg ht (fun h => have q := ((lg_cmp_eq _ _).trans mL_eq).mp h; k1 q (by rw [if_pos q] at hf; exact hf)) (fun h => have q := fun q => h (((lg_cmp_eq _ _).trans mL_eq).mpr q); k2 q (by rw [if_neg q] at hf; exact hf)))
theorem r_if_ne {a : Int} {off : Int} {tgt : Nat} {M1 M2 : Option (Int × mMem)} {z : Int × mMem} (X : mCx p m c cc nL s args own meth D cy ret) (hdg : decode cc pc = .ok (.ifCond .ne off, 3)) (ht : (pc : Int) + off = (tgt : Int)) (hf : (if ¬ mw a = 0 then M1 else M2) = some z)
    (k1 : ¬ mw a = 0 → M1 = some z → W p l e R s m args below meth c H locs cells slots Q (F0 m tgt ls rest)) (k2 : ¬ (¬ mw a = 0) → M2 = some z → W p l e R s m args below meth c H locs cells slots Q (F0 m (pc + 3) ls rest)) : W p l e R s m args below meth c H locs cells slots Q (F0 m pc ls (.int (mI a) :: rest)) :=
  lv_if_ne X.1.1 X.1.2.1 hdg ht (fun h => have q := (not_congr mI_eq0).mp h; k1 q (by rw [if_pos q] at hf; exact hf)) (fun h => have q := fun q => q ((mI_eq0).mp h); k2 q (by rw [if_neg q] at hf; exact hf))
theorem r_icmp_ne {a b : Int} {off : Int} {tgt : Nat} {M1 M2 : Option (Int × mMem)} {z : Int × mMem} (X : mCx p m c cc nL s args own meth D cy ret) (hdg : decode cc pc = .ok (.if_icmp .ne off, 3)) (ht : (pc : Int) + off = (tgt : Int)) (hf : (if ¬ mw a = mw b then M1 else M2) = some z)
    (k1 : ¬ mw a = mw b → M1 = some z → W p l e R s m args below meth c H locs cells slots Q (F0 m tgt ls rest)) (k2 : ¬ (¬ mw a = mw b) → M2 = some z → W p l e R s m args below meth c H locs cells slots Q (F0 m (pc + 3) ls rest)) : W p l e R s m args below meth c H locs cells slots Q (F0 m pc ls (.int (mI b) :: .int (mI a) :: rest)) :=
  lv_icmp_ne X.1.1 X.1.2.1 hdg ht (fun h => have q := (not_congr mI_eq).mp h; k1 q (by rw [if_pos q] at hf; exact hf)) (fun h => have q := fun q => q ((mI_eq).mp h); k2 q (by rw [if_neg q] at hf; exact hf))
theorem r_lcmp_ne {a b : Int} {off : Int} {tgt : Nat} {M1 M2 : Option (Int × mMem)} {z : Int × mMem} (X : mCx p m c cc nL s args own meth D cy ret) (hdg0 : decode cc pc = .ok (.lcmp, 1)) (hdg : decode cc (pc + 1) = .ok (.ifCond .ne off, 3)) (ht : ((pc + 1 : Nat) : Int) + off = (tgt : Int)) (hf : (if ¬ mwl a = mwl b then M1 else M2) = some z)
    (k1 : ¬ mwl a = mwl b → M1 = some z → W p l e R s m args below meth c H locs cells slots Q (F0 m tgt ls rest)) (k2 : ¬ (¬ mwl a = mwl b) → M2 = some z → W p l e R s m args below meth c H locs cells slots Q (F0 m (pc + 4) ls rest)) : W p l e R s m args below meth c H locs cells slots Q (F0 m pc ls (.long (mL b) :: .long (mL a) :: rest)) :=
  W.lcmp X.1.1 X.1.2.1 hdg0 (lv_if_ne X.1.1 X.1.2.1 hdg ht (fun h => have q := (not_congr ((lg_cmp_eq _ _).trans mL_eq)).mp h; k1 q (by rw [if_pos q] at hf; exact hf)) (fun h => have q := fun q => q ((((lg_cmp_eq _ _).trans mL_eq)).mp h); k2 q (by rw [if_neg q] at hf; exact hf)))
theorem r_if_lt {a : Int} {off : Int} {tgt : Nat} {M1 M2 : Option (Int × mMem)} {z : Int × mMem} (X : mCx p m c cc nL s args own meth D cy ret) (hdg : decode cc pc = .ok (.ifCond .lt off, 3)) (ht : (pc : Int) + off = (tgt : Int)) (hf : (if mw a < 0 then M1 else M2) = some z)
    (k1 : mw a < 0 → M1 = some z → W p l e R s m args below meth c H locs cells slots Q (F0 m tgt ls rest)) (k2 : ¬ (mw a < 0) → M2 = some z → W p l e R s m args below meth c H locs cells slots Q (F0 m (pc + 3) ls rest)) : W p l e R s m args below meth c H locs cells slots Q (F0 m pc ls (.int (mI a) :: rest)) :=
  lv_if_lt X.1.1 X.1.2.1 hdg ht (fun h => have q := mI_lt0.mp h; k1 q (by rw [if_pos q] at hf; exact hf)) (fun h => have q := fun q => h (mI_lt0.mpr q); k2 q (by rw [if_neg q] at hf; exact hf))
theorem r_icmp_lt {a b : Int} {off : Int} {tgt : Nat} {M1 M2 : Option (Int × mMem)} {z : Int × mMem} (X : mCx p m c cc nL s args own meth D cy ret) (hdg : decode cc pc = .ok (.if_icmp .lt off, 3)) (ht : (pc : Int) + off = (tgt : Int)) (hf : (if mw a < mw b then M1 else M2) = some z)
    (k1 : mw a < mw b → M1 = some z → W p l e R s m args below meth c H locs cells slots Q (F0 m tgt ls rest)) (k2 : ¬ (mw a < mw b) → M2 = some z → W p l e R s m args below meth c H locs cells slots Q (F0 m (pc + 3) ls rest)) : W p l e R s m args below meth c H locs cells slots Q (F0 m pc ls (.int (mI b) :: .int (mI a) :: rest)) :=
  lv_icmp_lt X.1.1 X.1.2.1 hdg ht (fun h => have q := mI_lt.mp h; k1 q (by rw [if_pos q] at hf; exact hf)) (fun h => have q := fun q => h (mI_lt.mpr q); k2 q (by rw [if_neg q] at hf; exact hf))
theorem r_lcmp_lt {a b : Int} {off : Int} {tgt : Nat} {M1 M2 : Option (Int × mMem)} {z : Int × mMem} (X : mCx p m c cc nL s args own meth D cy ret) (hdg0 : decode cc pc = .ok (.lcmp, 1)) (hdg : decode cc (pc + 1) = .ok (.ifCond .lt off, 3)) (ht : ((pc + 1 : Nat) : Int) + off = (tgt : Int)) (hf : (if mwl a < mwl b then M1 else M2) = some z)
    (k1 : mwl a < mwl b → M1 = some z → W p l e R s m args below meth c H locs cells slots Q (F0 m tgt ls rest)) (k2 : ¬ (mwl a < mwl b) → M2 = some z → W p l e R s m args below meth c H locs cells slots Q (F0 m (pc + 4) ls rest)) : W p l e R s m args below meth c H locs cells slots Q (F0 m pc ls (.long (mL b) :: .long (mL a) :: rest)) :=
  W.lcmp X.1.1 X.1.2.1 hdg0 (lv_if_lt X.1.1 X.1.2.1 hdg ht (fun h => have q := ((lg_cmp_lt _ _).trans mL_lt).mp h; k1 q (by rw [if_pos q] at hf; exact hf)) (fun h => have q := fun q => h (((lg_cmp_lt _ _).trans mL_lt).mpr q); k2 q (by rw [if_neg q] at hf; exact hf)))
theorem r_if_ge {a : Int} {off : Int} {tgt : Nat} {M1 M2 : Option (Int × mMem)} {z : Int × mMem} (X : mCx p m c cc nL s args own meth D cy ret) (hdg : decode cc pc = .ok (.ifCond .ge off, 3)) (ht : (pc : Int) + off = (tgt : Int)) (hf : (if 0 ≤ mw a then M1 else M2) = some z)
    (k1 : 0 ≤ mw a → M1 = some z → W p l e R s m args below meth c H locs cells slots Q (F0 m tgt ls rest)) (k2 : ¬ (0 ≤ mw a) → M2 = some z → W p l e R s m args below meth c H locs cells slots Q (F0 m (pc + 3) ls rest)) : W p l e R s m args below meth c H locs cells slots Q (F0 m pc ls (.int (mI a) :: rest)) :=
  lv_if_ge X.1.1 X.1.2.1 hdg ht (fun h => have q := mI_ge0.mp h; k1 q (by rw [if_pos q] at hf; exact hf)) (fun h => have q := fun q => h (mI_ge0.mpr q); k2 q (by rw [if_neg q] at hf; exact hf))
theorem r_icmp_ge {a b : Int} {off : Int} {tgt : Nat} {M1 M2 : Option (Int × mMem)} {z : Int × mMem} (X : mCx p m c cc nL s args own meth D cy ret) (hdg : decode cc pc = .ok (.if_icmp .ge off, 3)) (ht : (pc : Int) + off = (tgt : Int)) (hf : (if mw b ≤ mw a then M1 else M2) = some z)
    (k1 : mw b ≤ mw a → M1 = some z → W p l e R s m args below meth c H locs cells slots Q (F0 m tgt ls rest)) (k2 : ¬ (mw b ≤ mw a) → M2 = some z → W p l e R s m args below meth c H locs cells slots Q (F0 m (pc + 3) ls rest)) : W p l e R s m args below meth c H locs cells slots Q (F0 m pc ls (.int (mI b) :: .int (mI a) :: rest)) :=
  lv_icmp_ge X.1.1 X.1.2.1 hdg ht (fun h => have q := mI_le.mp h; k1 q (by rw [if_pos q] at hf; exact hf)) (fun h => have q := fun q => h (mI_le.mpr q); k2 q (by rw [if_neg q] at hf; exact hf))
theorem r_lcmp_ge {a b : Int} {off : Int} {tgt : Nat} {M1 M2 : Option (Int × mMem)} {z : Int × mMem} (X : mCx p m c cc nL s args own meth D cy ret) (hdg0 : decode cc pc = .ok (.lcmp, 1)) (hdg : decode cc (pc + 1) = .ok (.ifCond .ge off, 3)) (ht : ((pc + 1 : Nat) : Int) + off = (tgt : Int)) (hf : (if mwl b ≤ mwl a then M1 else M2) = some z)
    (k1 : mwl b ≤ mwl a → M1 = some z → W p l e R s m args below meth c H locs cells slots Q (F0 m tgt ls rest)) (k2 : ¬ (mwl b ≤ mwl a) → M2 = some z → W p l e R s m args below meth c H locs cells slots Q (F0 m (pc + 4) ls rest)) : W p l e R s m args below meth c H locs cells slots Q (F0 m pc ls (.long (mL b) :: .long (mL a) :: rest)) :=
  W.lcmp X.1.1 X.1.2.1 hdg0 (lv_if_ge X.1.1 X.1.2.1 hdg ht (fun h => have q := ((lg_cmp_ge _ _).trans mL_le).mp h; k1 q (by rw [if_pos q] at hf; exact hf)) (fun h => have q := fun q => h (((lg_cmp_ge _ _).trans mL_le).mpr q); k2 q (by rw [if_neg q] at hf; exact hf)))
theorem r_if_gt {a : Int} {off : Int} {tgt : Nat} {M1 M2 : Option (Int × mMem)} {z : Int × mMem} (X : mCx p m c cc nL s args own meth D cy ret) (hdg : decode cc pc = .ok (.ifCond .gt off, 3)) (ht : (pc : Int) + off = (tgt : Int)) (hf : (if 0 < mw a then M1 else M2) = some z)
    (k1 : 0 < mw a → M1 = some z → W p l e R s m args below meth c H locs cells slots Q (F0 m tgt ls rest)) (k2 : ¬ (0 < mw a) → M2 = some z → W p l e R s m args below meth c H locs cells slots Q (F0 m (pc + 3) ls rest)) : W p l e R s m args below meth c H locs cells slots Q (F0 m pc ls (.int (mI a) :: rest)) :=
  lv_if_gt X.1.1 X.1.2.1 hdg ht (fun h => have q := mI_gt0.mp h; k1 q (by rw [if_pos q] at hf; exact hf)) (fun h => have q := fun q => h (mI_gt0.mpr q); k2 q (by rw [if_neg q] at hf; exact hf))
theorem r_icmp_gt {a b : Int} {off : Int} {tgt : Nat} {M1 M2 : Option (Int × mMem)} {z : Int × mMem} (X : mCx p m c cc nL s args own meth D cy ret) (hdg : decode cc pc = .ok (.if_icmp .gt off, 3)) (ht : (pc : Int) + off = (tgt : Int)) (hf : (if mw b < mw a then M1 else M2) = some z)
    (k1 : mw b < mw a → M1 = some z → W p l e R s m args below meth c H locs cells slots Q (F0 m tgt ls rest)) (k2 : ¬ (mw b < mw a) → M2 = some z → W p l e R s m args below meth c H locs cells slots Q (F0 m (pc + 3) ls rest)) : W p l e R s m args below meth c H locs cells slots Q (F0 m pc ls (.int (mI b) :: .int (mI a) :: rest)) :=
  lv_icmp_gt X.1.1 X.1.2.1 hdg ht (fun h => have q := mI_lt.mp h; k1 q (by rw [if_pos q] at hf; exact hf)) (fun h => have q := fun q => h (mI_lt.mpr q); k2 q (by rw [if_neg q] at hf; exact hf))
theorem r_lcmp_gt {a b : Int} {off : Int} {tgt : Nat} {M1 M2 : Option (Int × mMem)} {z : Int × mMem} (X : mCx p m c cc nL s args own meth D cy ret) (hdg0 : decode cc pc = .ok (.lcmp, 1)) (hdg : decode cc (pc + 1) = .ok (.ifCond .gt off, 3)) (ht : ((pc + 1 : Nat) : Int) + off = (tgt : Int)) (hf : (if mwl b < mwl a then M1 else M2) = some z)
    (k1 : mwl b < mwl a → M1 = some z → W p l e R s m args below meth c H locs cells slots Q (F0 m tgt ls rest)) (k2 : ¬ (mwl b < mwl a) → M2 = some z → W p l e R s m args below meth c H locs cells slots Q (F0 m (pc + 4) ls rest)) : W p l e R s m args below meth c H locs cells slots Q (F0 m pc ls (.long (mL b) :: .long (mL a) :: rest)) :=
  W.lcmp X.1.1 X.1.2.1 hdg0 (lv_if_gt X.1.1 X.1.2.1 hdg ht (fun h => have q := ((lg_cmp_gt _ _).trans mL_lt).mp h; k1 q (by rw [if_pos q] at hf; exact hf)) (fun h => have q := fun q => h (((lg_cmp_gt _ _).trans mL_lt).mpr q); k2 q (by rw [if_neg q] at hf; exact hf)))
theorem r_if_le {a : Int} {off : Int} {tgt : Nat} {M1 M2 : Option (Int × mMem)} {z : Int × mMem} (X : mCx p m c cc nL s args own meth D cy ret) (hdg : decode cc pc = .ok (.ifCond .le off, 3)) (ht : (pc : Int) + off = (tgt : Int)) (hf : (if mw a ≤ 0 then M1 else M2) = some z)
    (k1 : mw a ≤ 0 → M1 = some z → W p l e R s m args below meth c H locs cells slots Q (F0 m tgt ls rest)) (k2 : ¬ (mw a ≤ 0) → M2 = some z → W p l e R s m args below meth c H locs cells slots Q (F0 m (pc + 3) ls rest)) : W p l e R s m args below meth c H locs cells slots Q (F0 m pc ls (.int (mI a) :: rest)) :=
  lv_if_le X.1.1 X.1.2.1 hdg ht (fun h => have q := mI_le0.mp h; k1 q (by rw [if_pos q] at hf; exact hf)) (fun h => have q := fun q => h (mI_le0.mpr q); k2 q (by rw [if_neg q] at hf; exact hf))
theorem r_icmp_le {a b : Int} {off : Int} {tgt : Nat} {M1 M2 : Option (Int × mMem)} {z : Int × mMem} (X : mCx p m c cc nL s args own meth D cy ret) (hdg : decode cc pc = .ok (.if_icmp .le off, 3)) (ht : (pc : Int) + off = (tgt : Int)) (hf : (if mw a ≤ mw b then M1 else M2) = some z)
    (k1 : mw a ≤ mw b → M1 = some z → W p l e R s m args below meth c H locs cells slots Q (F0 m tgt ls rest)) (k2 : ¬ (mw a ≤ mw b) → M2 = some z → W p l e R s m args below meth c H locs cells slots Q (F0 m (pc + 3) ls rest)) : W p l e R s m args below meth c H locs cells slots Q (F0 m pc ls (.int (mI b) :: .int (mI a) :: rest)) :=
  lv_icmp_le X.1.1 X.1.2.1 hdg ht (fun h => have q := mI_le.mp h; k1 q (by rw [if_pos q] at hf; exact hf)) (fun h => have q := fun q => h (mI_le.mpr q); k2 q (by rw [if_neg q] at hf; exact hf))
theorem r_lcmp_le {a b : Int} {off : Int} {tgt : Nat} {M1 M2 : Option (Int × mMem)} {z : Int × mMem} (X : mCx p m c cc nL s args own meth D cy ret) (hdg0 : decode cc pc = .ok (.lcmp, 1)) (hdg : decode cc (pc + 1) = .ok (.ifCond .le off, 3)) (ht : ((pc + 1 : Nat) : Int) + off = (tgt : Int)) (hf : (if mwl a ≤ mwl b then M1 else M2) = some z)
    (k1 : mwl a ≤ mwl b → M1 = some z → W p l e R s m args below meth c H locs cells slots Q (F0 m tgt ls rest)) (k2 : ¬ (mwl a ≤ mwl b) → M2 = some z → W p l e R s m args below meth c H locs cells slots Q (F0 m (pc + 4) ls rest)) : W p l e R s m args below meth c H locs cells slots Q (F0 m pc ls (.long (mL b) :: .long (mL a) :: rest)) :=
  W.lcmp X.1.1 X.1.2.1 hdg0 (lv_if_le X.1.1 X.1.2.1 hdg ht (fun h => have q := ((lg_cmp_le _ _).trans mL_le).mp h; k1 q (by rw [if_pos q] at hf; exact hf)) (fun h => have q := fun q => h (((lg_cmp_le _ _).trans mL_le).mpr q); k2 q (by rw [if_neg q] at hf; exact hf)))
theorem r_case {g : JFrame} {c9 : Prop} [Decidable c9] {M1 M2 : Option (Int × mMem)} {z : Int × mMem} (hf : (if c9 then M1 else M2) = some z) (k1 : c9 → M1 = some z → W p l e R s m args below meth c H locs cells slots Q g) (k2 : ¬ c9 → M2 = some z → W p l e R s m args below meth c H locs cells slots Q g) : W p l e R s m args below meth c H locs cells slots Q g := by
  by_cases h : c9
  · exact k1 h (by rw [if_pos h] at hf; exact hf)
  · exact k2 h (by rw [if_neg h] at hf; exact hf)
theorem r_tin {a k : Int} {dflt lo hi off : Int} {offs : Array Int} {len tgt : Nat} (X : mCx p m c cc nL s args own meth D cy ret) (hdg : decode cc pc = .ok (.tableswitch dflt lo hi offs, len)) (h : mw a = k) (h1 : ¬ k < lo) (h2 : ¬ hi < k) (ho : offs[(k - lo).toNat]? = some off) (ht : (pc : Int) + off = (tgt : Int)) (kk : W p l e R s m args below meth c H locs cells slots Q (F0 m tgt ls rest)) : W p l e R s m args below meth c H locs cells slots Q (F0 m pc ls (.int (mI a) :: rest)) := by
  have e : (mI a).toInt = k := by rw [mI_toInt, h]
  exact lv_tableIn X.1.1 X.1.2.1 hdg (by rw [e]; exact h1) (by rw [e]; exact h2) (by rw [e]; exact ho) ht kk
theorem r_tout {a : Int} {dflt lo hi : Int} {offs : Array Int} {len tgt : Nat} (X : mCx p m c cc nL s args own meth D cy ret) (hdg : decode cc pc = .ok (.tableswitch dflt lo hi offs, len)) (h : mw a < lo ∨ hi < mw a) (ht : (pc : Int) + dflt = (tgt : Int)) (kk : W p l e R s m args below meth c H locs cells slots Q (F0 m tgt ls rest)) : W p l e R s m args below meth c H locs cells slots Q (F0 m pc ls (.int (mI a) :: rest)) :=
  lv_tableOut X.1.1 X.1.2.1 hdg (by rw [mI_toInt]; exact h) ht kk
end MR
