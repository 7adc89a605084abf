/-! words of the models, and rows that a program's walks use -/
abbrev mRs : Type := Option (Int × mMem)
def mlet (z : Int) (k : Int → mRs) : mRs := k z
def mlm (σ : mMem) (k : mMem → mRs) : mRs := k σ
def mWorld (o : Nat) : Prop := mSh o = (10, 8) ∧ mSh (o + 1) = (13, 60) ∧ mSh (o + 2) = (15, 6) ∧ mSh (o + 3) = (2, 2) ∧ mSh (o + 4) = (13, 7) ∧ mSh (o + 5) = (13, 80)
def mPlan (o : Nat) : Prop := mSh o = (5, 15) ∧ mSh (o + 1) = (13, 81) ∧ mSh (o + 2) = (13, 6) ∧ mSh (o + 3) = (13, 60) ∧ mSh (o + 4) = (13, 1600)
def mMach (o : Nat) : Prop := mSh o = (2, 2) ∧ mSh (o + 1) = (13, 7) ∧ mSh (o + 2) = (13, 80)
theorem mWorld.mach {o : Nat} (h : mWorld o) : mMach (o + 3) := ⟨h.2.2.2.1, h.2.2.2.2.1, h.2.2.2.2.2⟩
theorem mPlan_z {z : Int} (h : z = 3 ∨ z = 8) : mPlan z.toNat := by
  rcases h with h | h
  · subst h
    exact ⟨by decide +kernel, by decide +kernel, by decide +kernel, by decide +kernel, by decide +kernel⟩
  · subst h
    exact ⟨by decide +kernel, by decide +kernel, by decide +kernel, by decide +kernel, by decide +kernel⟩
theorem sh_w20 : mWorld 20 := ⟨by decide +kernel, by decide +kernel, by decide +kernel, by decide +kernel, by decide +kernel, by decide +kernel⟩
theorem sh_w29 : mWorld 29 := ⟨by decide +kernel, by decide +kernel, by decide +kernel, by decide +kernel, by decide +kernel, by decide +kernel⟩
theorem sh_w48 : mWorld 48 := ⟨by decide +kernel, by decide +kernel, by decide +kernel, by decide +kernel, by decide +kernel, by decide +kernel⟩
theorem sh_w79 : mWorld 79 := ⟨by decide +kernel, by decide +kernel, by decide +kernel, by decide +kernel, by decide +kernel, by decide +kernel⟩
theorem sh_r37 : ∀ j, j < 10 → mSh (37 + 1 + j) = (13, 41) := by decide +kernel
theorem sh_r55 : ∀ j, j < 20 → mSh (55 + 1 + j) = (13, 123) := by decide +kernel
section MG
variable {p : Program} {l : Launch} {e : Env} {R : Room} {s : State} {m : MethodId} {args : Array Value} {below : List Frame} {meth : Method} {c : Code} {H : Heap} {locs : List Loc} {cells slots : Nat} {Q : State → Prop}
variable {cc : ByteArray} {pc nL bs n : Nat} {ls : Array Slot} {rest st : List Value} {D : va_G} {cy : Nat → ClassId} {ad : Nat → Nat} {md : Bool} {σ : mMem} {own : String} {ret : Option FieldType}
abbrev mGi (p : Program) (l : Launch) (e : Env) (h : Nat) (s : State) (m : MethodId) (args : Array Value) (below : List Frame) (meth : Method) (c : Code) (D : va_G) (cy : Nat → ClassId) (ad : Nat → Nat) (bs : Nat) (r : Int) (σ' : mMem) (H : Heap) (locs : List Loc) (g : JFrame) : Prop :=
  W p l e (mRm h) s m args below meth c H locs 0 0 (MQ below (mQi D cy ad bs r σ') args s 0 0 (mA bs)) g
abbrev mGl (p : Program) (l : Launch) (e : Env) (h : Nat) (s : State) (m : MethodId) (args : Array Value) (below : List Frame) (meth : Method) (c : Code) (D : va_G) (cy : Nat → ClassId) (ad : Nat → Nat) (bs : Nat) (r : Int) (σ' : mMem) (H : Heap) (locs : List Loc) (g : JFrame) : Prop :=
  W p l e (mRm h) s m args below meth c H locs 0 0 (MQ below (mQl D cy ad bs r σ') args s 0 0 (mA bs)) g
abbrev mGv (p : Program) (l : Launch) (e : Env) (h : Nat) (s : State) (m : MethodId) (args : Array Value) (below : List Frame) (meth : Method) (c : Code) (D : va_G) (cy : Nat → ClassId) (ad : Nat → Nat) (bs : Nat) (σ' : mMem) (H : Heap) (locs : List Loc) (g : JFrame) : Prop :=
  W p l e (mRm h) s m args below meth c H locs 0 0 (MQ below (mQv D cy ad bs σ') args s 0 0 (mA bs)) g
theorem r_leti {a : Int} {k : Int → mRs} {w : Int × mMem} (hf : mlet a k = some w) (kk : ∀ b : Int, k b = some w → W p l e R s m args below meth c H locs cells slots Q (F0 m pc ls (.int (mI b) :: rest))) : W p l e R s m args below meth c H locs cells slots Q (F0 m pc ls (.int (mI a) :: rest)) := kk a hf
theorem r_letl {a : Int} {k : Int → mRs} {w : Int × mMem} (hf : mlet a k = some w) (kk : ∀ b : Int, k b = some w → W p l e R s m args below meth c H locs cells slots Q (F0 m pc ls (.long (mL b) :: rest))) : W p l e R s m args below meth c H locs cells slots Q (F0 m pc ls (.long (mL a) :: rest)) := kk a hf
theorem r_mem {k : mMem → mRs} {w : Int × mMem} {g : JFrame} (hf : mlm σ k = some w) (hw : mWd D cy ad bs md n σ s.heap H locs) (kk : ∀ τ : mMem, mWd D cy ad bs md n τ s.heap H locs → k τ = some w → W p l e R s m args below meth c H locs cells slots Q g) : W p l e R s m args below meth c H locs cells slots Q g := kk σ hw hf
theorem r_getp {o ci k index N len : Nat} {C : String} {T : u_T} {M : mRs} {w : Int × mMem} (X : mCx p m c cc nL s args own meth D cy ret) (hw : mWd D cy ad bs true mN σ s.heap H locs) (hs : mSh o = (ci, len)) (F : mFd ci k C T N) (hft : (mFt ci).getD k 0 = 3) (hlk : Cond.fieldLink own index (T k).1 (T k).2.1 (T k).2.2.1 ∈ lw_g) (hdg : decode cc pc = .ok (.getfield index, 3)) (hf : (if σ o k = 3 ∨ σ o k = 8 then M else none) = some w)
    (kk : (σ o k = 3 ∨ σ o k = 8) → M = some w → W p l e R s m args below meth c H locs cells slots Q (F0 m (pc + 3) ls (.ref (ad (σ o k).toNat) :: rest))) : W p l e R s m args below meth c H locs cells slots Q (F0 m pc ls (.ref (ad o) :: rest)) := by
  by_cases h : σ o k = 3 ∨ σ o k = 8
  · rw [if_pos h] at hf
    exact r_getd X hw hs F hft hlk hdg (kk h hf)
  · rw [if_neg h] at hf
    cases hf
theorem r_ldc2 {index : Nat} {v : Int64} {z : Int} (hz : v = mL z) (X : mCx p m c cc nL s args own meth D cy ret) (hc : Cond.constantLong own index v ∈ lw_g) (hdg : decode cc pc = .ok (.ldc2_w index, 3)) (kk : W p l e R s m args below meth c H locs cells slots Q (F0 m (pc + 3) ls (.long (mL z) :: rest))) : W p l e R s m args below meth c H locs cells slots Q (F0 m pc ls rest) := by
  subst hz
  exact lv_ldc2 X.1.1 X.1.2.1 X.1.2.2.2.1 (X.1.2.2.2.2 _ hc) hdg kk
theorem r_ldcw {index : Nat} {v : Int32} {z : Int} (hz : v = mI z) (X : mCx p m c cc nL s args own meth D cy ret) (hc : Cond.constant own index v ∈ lw_g) (hdg : decode cc pc = .ok (.ldc_w index, 3)) (kk : W p l e R s m args below meth c H locs cells slots Q (F0 m (pc + 3) ls (.int (mI z) :: rest))) : W p l e R s m args below meth c H locs cells slots Q (F0 m pc ls rest) := by
  subst hz
  exact lv_ldcw X.1.1 X.1.2.1 X.1.2.2.2.1 (X.1.2.2.2.2 _ hc) hdg kk
end MG
theorem sh_0 : mSh 0 = (11, 13) := by decide +kernel
theorem sh_1 : mSh 1 = (7, 2) := by decide +kernel
theorem sh_2 : mSh 2 = (13, 1600) := by decide +kernel
theorem sh_3 : mSh 3 = (5, 15) := by decide +kernel
theorem sh_4 : mSh 4 = (13, 81) := by decide +kernel
theorem sh_5 : mSh 5 = (13, 6) := by decide +kernel
theorem sh_6 : mSh 6 = (13, 60) := by decide +kernel
theorem sh_7 : mSh 7 = (13, 1600) := by decide +kernel
theorem sh_8 : mSh 8 = (5, 15) := by decide +kernel
theorem sh_9 : mSh 9 = (13, 81) := by decide +kernel
theorem sh_10 : mSh 10 = (13, 6) := by decide +kernel
theorem sh_11 : mSh 11 = (13, 60) := by decide +kernel
theorem sh_12 : mSh 12 = (13, 1600) := by decide +kernel
theorem sh_13 : mSh 13 = (6, 3) := by decide +kernel
theorem sh_14 : mSh 14 = (8, 12) := by decide +kernel
theorem sh_15 : mSh 15 = (13, 28) := by decide +kernel
theorem sh_16 : mSh 16 = (13, 1600) := by decide +kernel
theorem sh_17 : mSh 17 = (13, 1600) := by decide +kernel
theorem sh_18 : mSh 18 = (13, 1600) := by decide +kernel
theorem sh_19 : mSh 19 = (1, 3) := by decide +kernel
theorem sh_20 : mSh 20 = (10, 8) := by decide +kernel
theorem sh_21 : mSh 21 = (13, 60) := by decide +kernel
theorem sh_22 : mSh 22 = (15, 6) := by decide +kernel
theorem sh_23 : mSh 23 = (2, 2) := by decide +kernel
theorem sh_24 : mSh 24 = (13, 7) := by decide +kernel
theorem sh_25 : mSh 25 = (13, 80) := by decide +kernel
theorem sh_26 : mSh 26 = (0, 4) := by decide +kernel
theorem sh_27 : mSh 27 = (13, 324) := by decide +kernel
theorem sh_28 : mSh 28 = (13, 324) := by decide +kernel
theorem sh_29 : mSh 29 = (10, 8) := by decide +kernel
theorem sh_30 : mSh 30 = (13, 60) := by decide +kernel
theorem sh_31 : mSh 31 = (15, 6) := by decide +kernel
theorem sh_32 : mSh 32 = (2, 2) := by decide +kernel
theorem sh_33 : mSh 33 = (13, 7) := by decide +kernel
theorem sh_34 : mSh 34 = (13, 80) := by decide +kernel
theorem sh_35 : mSh 35 = (9, 4) := by decide +kernel
theorem sh_36 : mSh 36 = (13, 48) := by decide +kernel
theorem sh_37 : mSh 37 = (16, 10) := by decide +kernel
theorem sh_38 : mSh 38 = (13, 41) := by decide +kernel
theorem sh_39 : mSh 39 = (13, 41) := by decide +kernel
theorem sh_40 : mSh 40 = (13, 41) := by decide +kernel
theorem sh_41 : mSh 41 = (13, 41) := by decide +kernel
theorem sh_42 : mSh 42 = (13, 41) := by decide +kernel
theorem sh_43 : mSh 43 = (13, 41) := by decide +kernel
theorem sh_44 : mSh 44 = (13, 41) := by decide +kernel
theorem sh_45 : mSh 45 = (13, 41) := by decide +kernel
theorem sh_46 : mSh 46 = (13, 41) := by decide +kernel
theorem sh_47 : mSh 47 = (13, 41) := by decide +kernel
theorem sh_48 : mSh 48 = (10, 8) := by decide +kernel
theorem sh_49 : mSh 49 = (13, 60) := by decide +kernel
theorem sh_50 : mSh 50 = (15, 6) := by decide +kernel
theorem sh_51 : mSh 51 = (2, 2) := by decide +kernel
theorem sh_52 : mSh 52 = (13, 7) := by decide +kernel
theorem sh_53 : mSh 53 = (13, 80) := by decide +kernel
theorem sh_54 : mSh 54 = (3, 5) := by decide +kernel
theorem sh_55 : mSh 55 = (16, 20) := by decide +kernel
theorem sh_56 : mSh 56 = (13, 123) := by decide +kernel
theorem sh_57 : mSh 57 = (13, 123) := by decide +kernel
theorem sh_58 : mSh 58 = (13, 123) := by decide +kernel
theorem sh_59 : mSh 59 = (13, 123) := by decide +kernel
theorem sh_60 : mSh 60 = (13, 123) := by decide +kernel
theorem sh_61 : mSh 61 = (13, 123) := by decide +kernel
theorem sh_62 : mSh 62 = (13, 123) := by decide +kernel
theorem sh_63 : mSh 63 = (13, 123) := by decide +kernel
theorem sh_64 : mSh 64 = (13, 123) := by decide +kernel
theorem sh_65 : mSh 65 = (13, 123) := by decide +kernel
theorem sh_66 : mSh 66 = (13, 123) := by decide +kernel
theorem sh_67 : mSh 67 = (13, 123) := by decide +kernel
theorem sh_68 : mSh 68 = (13, 123) := by decide +kernel
theorem sh_69 : mSh 69 = (13, 123) := by decide +kernel
theorem sh_70 : mSh 70 = (13, 123) := by decide +kernel
theorem sh_71 : mSh 71 = (13, 123) := by decide +kernel
theorem sh_72 : mSh 72 = (13, 123) := by decide +kernel
theorem sh_73 : mSh 73 = (13, 123) := by decide +kernel
theorem sh_74 : mSh 74 = (13, 123) := by decide +kernel
theorem sh_75 : mSh 75 = (13, 123) := by decide +kernel
theorem sh_76 : mSh 76 = (13, 60) := by decide +kernel
theorem sh_77 : mSh 77 = (4, 3) := by decide +kernel
theorem sh_78 : mSh 78 = (13, 52) := by decide +kernel
theorem sh_79 : mSh 79 = (10, 8) := by decide +kernel
theorem sh_80 : mSh 80 = (13, 60) := by decide +kernel
theorem sh_81 : mSh 81 = (15, 6) := by decide +kernel
theorem sh_82 : mSh 82 = (2, 2) := by decide +kernel
theorem sh_83 : mSh 83 = (13, 7) := by decide +kernel
theorem sh_84 : mSh 84 = (13, 80) := by decide +kernel
theorem sh_85 : mSh 85 = (13, 6) := by decide +kernel
theorem sh_86 : mSh 86 = (12, 72) := by decide +kernel
theorem sh_87 : mSh 87 = (13, 1800) := by decide +kernel
theorem sh_88 : mSh 88 = (13, 2) := by decide +kernel
theorem sh_89 : mSh 89 = (13, 2) := by decide +kernel
theorem sh_90 : mSh 90 = (13, 162) := by decide +kernel
theorem sh_91 : mSh 91 = (13, 2) := by decide +kernel
theorem sh_92 : mSh 92 = (13, 12) := by decide +kernel
theorem sh_93 : mSh 93 = (13, 12) := by decide +kernel
theorem sh_94 : mSh 94 = (13, 12) := by decide +kernel
theorem sh_95 : mSh 95 = (13, 12) := by decide +kernel
theorem sh_96 : mSh 96 = (13, 12) := by decide +kernel
theorem sh_97 : mSh 97 = (13, 6) := by decide +kernel
theorem sh_98 : mSh 98 = (13, 4) := by decide +kernel
theorem sh_99 : mSh 99 = (13, 4) := by decide +kernel
theorem sh_100 : mSh 100 = (13, 3200) := by decide +kernel
theorem sh_101 : mSh 101 = (13, 3200) := by decide +kernel
theorem sh_102 : mSh 102 = (14, 12) := by decide +kernel
theorem sh_103 : mSh 103 = (13, 20) := by decide +kernel
theorem sh_104 : mSh 104 = (13, 20) := by decide +kernel
theorem sh_105 : mSh 105 = (15, 20) := by decide +kernel
theorem sh_106 : mSh 106 = (13, 20) := by decide +kernel
theorem sh_107 : mSh 107 = (13, 20) := by decide +kernel
theorem sh_108 : mSh 108 = (13, 500) := by decide +kernel
theorem sh_109 : mSh 109 = (13, 6) := by decide +kernel
theorem sh_110 : mSh 110 = (13, 22) := by decide +kernel
theorem sh_111 : mSh 111 = (13, 22) := by decide +kernel
theorem sh_112 : mSh 112 = (13, 132) := by decide +kernel
theorem sh_113 : mSh 113 = (13, 132) := by decide +kernel
theorem sh_114 : mSh 114 = (13, 132) := by decide +kernel
theorem sh_115 : mSh 115 = (13, 132) := by decide +kernel
theorem sh_116 : mSh 116 = (13, 132) := by decide +kernel
theorem sh_117 : mSh 117 = (13, 22) := by decide +kernel
theorem sh_118 : mSh 118 = (13, 5280) := by decide +kernel
theorem sh_119 : mSh 119 = (14, 500) := by decide +kernel
theorem sh_120 : mSh 120 = (13, 12) := by decide +kernel
theorem sh_121 : mSh 121 = (13, 324) := by decide +kernel
theorem sh_122 : mSh 122 = (13, 16) := by decide +kernel
theorem sh_123 : mSh 123 = (13, 16) := by decide +kernel
theorem sh_124 : mSh 124 = (13, 410) := by decide +kernel
theorem sh_125 : mSh 125 = (13, 60) := by decide +kernel
