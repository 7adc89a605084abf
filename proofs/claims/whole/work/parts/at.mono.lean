/-! LAYER 2: kitchen: the class's signs go on -/
def Mono (q : mRs) (σ : mMem) : Prop := ∀ r σ', q = some (r, σ') → σ 14 6 ≤ σ' 14 6
theorem Mono.ret {r : Int} {σ : mMem} : Mono (some (r, σ)) σ := fun r' σ' h => by
  have := (some_inj h).2
  rw [this]
  exact Int.le_refl _
theorem Mono.non {σ : mMem} : Mono none σ := fun r' σ' h => by cases h
theorem Mono.mob {q : mRs} {k : Int → mMem → mRs} {σ : mMem} (h : Mono q σ) (g : ∀ r σ1, Mono (k r σ1) σ1) : Mono (mob q k) σ := fun r' σ' e => by
  obtain ⟨r1, σ1, e1, e2⟩ := mob_some e
  exact Int.le_trans (h r1 σ1 e1) (g r1 σ1 r' σ' e2)
theorem Mono.ite {c : Prop} [Decidable c] {A B : mRs} {σ : mMem} (h : c → Mono A σ) (g : ¬ c → Mono B σ) : Mono (if c then A else B) σ := by
  by_cases e : c
  · rw [if_pos e]; exact h e
  · rw [if_neg e]; exact g e
theorem Mono.up {o j : Nat} {z : Int} {k : mMem → mRs} {σ : mMem} (h : ¬ (14 = o ∧ 6 = j)) (g : Mono (k (mup σ o j z)) (mup σ o j z)) : Mono (mlm (mup σ o j z) k) σ := fun r' σ' e => by
  have := g r' σ' e
  rw [mup_ne h] at this
  exact this
theorem Mono.lt {v : Int} {k : Int → mRs} {σ : mMem} (g : Mono (k v) σ) : Mono (mlet v k) σ := g
theorem Mono.fr {q : mRs} {σ : mMem} (h : ∀ r σ', q = some (r, σ') → σ' 14 6 = σ 14 6) : Mono q σ := fun r σ' e => by rw [h r σ' e]; exact Int.le_refl _
theorem mo_ref {F : Nat} {x : Int} {σ : mMem} : Mono (g_X8_refuseHere F x σ) σ := Mono.fr (fun r σ' e => f_X8_refuseHere e 14 6 (by unfold T_X8_refuseHere; decide))
theorem mo_next {F : Nat} {σ : mMem} : Mono (g_X8_next F σ) σ := by
  have core : ∀ (k : mMem → mRs), (∀ σ1, Mono (k σ1) σ1) → Mono (mlm (mup σ 14 6 ((σ 14 6) + 1)) k) σ := fun k g r' σ' e => by
    have := g _ r' σ' e
    rw [mup_at rfl rfl] at this
    omega
  have b48 : ∀ σ1, Mono (g_X8_next_b48 F σ1) σ1 := fun σ1 => by
    unfold g_X8_next_b48
    exact Mono.up (by decide) (Mono.up (by decide) (Mono.up (by decide) Mono.ret))
  have b130 : ∀ σ1, Mono (g_X8_next_b130 F σ1) σ1 := fun σ1 => by
    unfold g_X8_next_b130
    exact Mono.ret
  unfold g_X8_next
  refine Mono.ite (fun _ => core _ (fun σ1 => ?_)) (fun _ => Mono.ret)
  refine Mono.ite (fun _ => b48 σ1) (fun _ => Mono.ite (fun _ => b48 σ1) (fun _ => Mono.ite (fun _ => ?_) (fun _ => b48 σ1)))
  refine Mono.ite (fun _ => Mono.up (by decide) (Mono.ite (fun _ => Mono.up (by decide) (Mono.ite (fun _ => Mono.up (by decide) (Mono.ite (fun _ => b130 _) (fun _ => Mono.up (by decide) (Mono.mob mo_ref (fun _ _ => b130 _))))) (fun _ => Mono.non))) (fun _ => Mono.non))) (fun _ => Mono.non)
theorem mo_isM {F : Nat} {x : Int} {σ : mMem} : Mono (g_X8_isMark F x σ) σ := Mono.fr (fun r σ' e => f_X8_isMark e 14 6 (by unfold T_X8_isMark; exact id))
theorem mo_isW {F : Nat} {x : Int} {σ : mMem} : Mono (g_X8_isWord F x σ) σ := Mono.fr (fun r σ' e => f_X8_isWord e 14 6 (by unfold T_X8_isWord; exact id))
theorem mo_mark {F : Nat} {x : Int} {σ : mMem} : Mono (g_X8_takeMark F x σ) σ := by
  unfold g_X8_takeMark g_X8_takeMark_b13
  exact Mono.mob mo_isM (fun _ _ => Mono.ite (fun _ => Mono.mob mo_next (fun _ _ => Mono.ret)) (fun _ => Mono.mob mo_ref (fun _ _ => Mono.mob mo_next (fun _ _ => Mono.ret))))
theorem mo_word {F : Nat} {x : Int} {σ : mMem} : Mono (g_X8_takeWord F x σ) σ := by
  unfold g_X8_takeWord g_X8_takeWord_b13
  exact Mono.mob mo_isW (fun _ _ => Mono.ite (fun _ => Mono.mob mo_next (fun _ _ => Mono.ret)) (fun _ => Mono.mob mo_ref (fun _ _ => Mono.mob mo_next (fun _ _ => Mono.ret))))
theorem mo_num {F : Nat} {x y : Int} {σ : mMem} : Mono (g_X8_takeNumber F x y σ) σ := by
  unfold g_X8_takeNumber g_X8_takeNumber_b32 g_X8_takeNumber_b37
  have b37 : ∀ σ1, Mono (mlet (σ1 14 9) (fun y103 => mob (g_X8_next F σ1) (fun r104 σ105 => some (y103, σ105)))) σ1 := fun σ1 => Mono.lt (Mono.mob mo_next (fun _ _ => Mono.ret))
  exact Mono.ite (fun _ => Mono.ite (fun _ => Mono.mob mo_ref (fun _ _ => b37 _)) (fun _ => Mono.ite (fun _ => b37 _) (fun _ => Mono.mob mo_ref (fun _ _ => b37 _)))) (fun _ => Mono.mob mo_ref (fun _ _ => b37 _))
theorem tn38 {z : Int} (h : z = 3 ∨ z = 8) : z.toNat = 3 ∨ z.toNat = 8 := by omega
theorem mo_named {F o : Nat} {x : Int} {σ : mMem} : Mono (g_X5_boxNamed F o x σ) σ := Mono.fr (fun r σ' e => f_X5_boxNamed e 14 6 (by unfold T_X5_boxNamed; exact id))
theorem mo_on {F o : Nat} {x y : Int} {σ : mMem} : Mono (g_X5_boxStartingOn F o x y σ) σ := Mono.fr (fun r σ' e => f_X5_boxStartingOn e 14 6 (by unfold T_X5_boxStartingOn; exact id))
theorem mo_sets {F : Nat} {z x y v : Int} {σ : mMem} (h : z = 3 ∨ z = 8) : Mono (g_X5_setStart F z.toNat x y v σ) σ := Mono.fr (fun r σ' e => f_X5_setStart e 14 6 (by unfold T_X5_setStart; have := tn38 h; omega))
theorem mo_setg {F : Nat} {z x y v : Int} {σ : mMem} (h : z = 3 ∨ z = 8) : Mono (g_X5_setGrey F z.toNat x y v σ) σ := Mono.fr (fun r σ' e => f_X5_setGrey e 14 6 (by unfold T_X5_setGrey; have := tn38 h; omega))
theorem mo_addb {F : Nat} {z x y v u : Int} {σ : mMem} (h : z = 3 ∨ z = 8) : Mono (g_X5_addBox F z.toNat x y v u σ) σ := Mono.fr (fun r σ' e => f_X5_addBox e 14 6 (by unfold T_X5_addBox; have := tn38 h; omega))
theorem mo_box {F : Nat} {σ : mMem} : Mono (g_X6_takeBoxName F σ) σ := by
  unfold g_X6_takeBoxName g_X6_takeBoxName_b50
  exact Mono.ite (fun _ => Mono.mob mo_named (fun _ _ => Mono.ite (fun _ => Mono.ite (fun _ => Mono.mob mo_next (fun _ _ => Mono.ret)) (fun _ => Mono.mob mo_ref (fun _ _ => Mono.mob mo_next (fun _ _ => Mono.ret)))) (fun _ => Mono.mob mo_ref (fun _ _ => Mono.mob mo_next (fun _ _ => Mono.ret))))) (fun _ => Mono.non)
theorem mo_new {F : Nat} {σ : mMem} : Mono (g_X6_takeNewName F σ) σ := by
  unfold g_X6_takeNewName g_X6_takeNewName_b48
  have b48 : ∀ σ1, Mono (mlet (σ1 14 9) (fun y103 => mob (g_X8_next F σ1) (fun r104 σ105 => some (y103, σ105)))) σ1 := fun σ1 => Mono.lt (Mono.mob mo_next (fun _ _ => Mono.ret))
  exact Mono.ite (fun _ => Mono.ite (fun _ => Mono.mob mo_named (fun _ _ => Mono.ite (fun _ => b48 _) (fun _ => Mono.mob mo_ref (fun _ _ => b48 _)))) (fun _ => Mono.non)) (fun _ => Mono.mob mo_ref (fun _ _ => b48 _))
theorem mo_grey {F : Nat} {σ : mMem} : Mono (g_X6_readGrey F σ) σ := by
  unfold g_X6_readGrey
  exact Mono.mob mo_next (fun _ _ => Mono.ite (fun _ => Mono.mob mo_num (fun _ _ => Mono.ite (fun _ => Mono.mob mo_num (fun _ _ => Mono.ite (fun h => Mono.mob mo_num (fun _ _ => Mono.mob (mo_setg h) (fun _ _ => Mono.ret))) (fun _ => Mono.non))) (fun _ => Mono.non))) (fun _ => Mono.non))
theorem mo_rbox {F : Nat} {σ : mMem} : Mono (g_X6_readBox F σ) σ := by
  have b76 : ∀ x y σ1, Mono (g_X6_readBox_b76 F x y σ1) σ1 := fun x y σ1 => by
    unfold g_X6_readBox_b76
    exact Mono.ite (fun _ => Mono.mob mo_num (fun _ _ => Mono.mob mo_word (fun _ _ => Mono.ite (fun h => Mono.mob mo_num (fun _ _ => Mono.mob (mo_addb h) (fun _ _ => Mono.ret))) (fun _ => Mono.non)))) (fun _ => Mono.non)
  unfold g_X6_readBox
  exact Mono.mob mo_next (fun _ _ => Mono.mob mo_new (fun _ _ => Mono.mob mo_word (fun _ _ => Mono.ite (fun _ => Mono.mob mo_num (fun _ _ => Mono.ite (fun _ => b76 _ _ _) (fun _ => Mono.ite (fun _ => Mono.mob mo_on (fun _ _ => Mono.ite (fun _ => b76 _ _ _) (fun _ => Mono.mob mo_ref (fun _ _ => b76 _ _ _)))) (fun _ => Mono.non)))) (fun _ => Mono.non))))
theorem mo_eyes {F : Nat} {σ : mMem} : Mono (g_X6_readEyes F σ) σ := by
  unfold g_X6_readEyes
  exact Mono.mob mo_next (fun _ _ => Mono.mob mo_box (fun _ _ => Mono.mob mo_word (fun _ _ => Mono.ite (fun h => Mono.mob mo_num (fun _ _ => Mono.mob (mo_sets h) (fun _ _ => Mono.mob mo_word (fun _ _ => Mono.ite (fun h => Mono.mob mo_num (fun _ _ => Mono.mob (mo_sets h) (fun _ _ => Mono.ret))) (fun _ => Mono.non))))) (fun _ => Mono.non))))
theorem mo_bias {F : Nat} {σ : mMem} : Mono (g_X6_readBias F σ) σ := by
  unfold g_X6_readBias
  exact Mono.mob mo_next (fun _ _ => Mono.mob mo_box (fun _ _ => Mono.ite (fun h => Mono.mob mo_num (fun _ _ => Mono.mob (mo_sets h) (fun _ _ => Mono.ret))) (fun _ => Mono.non)))
theorem mo_set {F : Nat} {x : Int} {σ : mMem} : Mono (g_X6_readSetting F x σ) σ := by
  unfold g_X6_readSetting g_X6_readSetting_b108
  exact Mono.ite (fun _ => Mono.ite (fun _ => Mono.ite (fun _ => Mono.mob mo_ref (fun _ _ => Mono.ret)) (fun _ => Mono.mob mo_next (fun _ _ => Mono.ite (fun _ => Mono.mob mo_num (fun _ _ => Mono.up (by omega) Mono.ret)) (fun _ => Mono.non)))) (fun _ => Mono.mob mo_next (fun _ _ => Mono.ite (fun _ => Mono.mob mo_num (fun _ _ => Mono.up (by omega) Mono.ret)) (fun _ => Mono.non)))) (fun _ => Mono.mob mo_next (fun _ _ => Mono.ite (fun _ => Mono.mob mo_num (fun _ _ => Mono.up (by omega) Mono.ret)) (fun _ => Mono.non)))
