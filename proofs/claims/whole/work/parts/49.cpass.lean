/-! LAYER 2: a step, in plain words; the class's -/
abbrev xAct (made delay : Int) (A : Nat → Nat → Int) (k : Nat) : Prop := (k : Int) * delay ≤ made ∧ 0 < A k 3
def xPs (π : mMem) (p : Nat) (lamp step made delay : Int) : Nat → (Nat → Nat → Int) → Nat → Nat → Int
  | 0, A => A
  | n + 1, A => fun k => if k = n ∧ xAct made delay (xPs π p lamp step made delay n A) n then xNew π p lamp step (xPs π p lamp step made delay n A) (xPs π p lamp step made delay n A n) else xPs π p lamp step made delay n A k
def xWf (π : mMem) (p : Nat) (lamp step made delay : Int) (A : Nat → Nat → Int) (k : Nat) : Int := mb (xAct made delay (xPs π p lamp step made delay k A) k ∧ xWent π p lamp step (xPs π p lamp step made delay k A) (xPs π p lamp step made delay k A k))
def xKf (π : mMem) (p : Nat) (lamp step made delay : Int) (A : Nat → Nat → Int) (k : Nat) : Int := mb (xAct made delay (xPs π p lamp step made delay k A) k ∧ xBlk π p lamp step (xPs π p lamp step made delay k A) (xPs π p lamp step made delay k A k))
def xSum (f : Nat → Int) : Nat → Int
  | 0 => 0
  | n + 1 => xSum f n + f n
theorem xPs_s {π : mMem} {p : Nat} {lamp step made delay : Int} {n : Nat} {A : Nat → Nat → Int} {k : Nat} : xPs π p lamp step made delay (n + 1) A k = if k = n ∧ xAct made delay (xPs π p lamp step made delay n A) n then xNew π p lamp step (xPs π p lamp step made delay n A) (xPs π p lamp step made delay n A n) else xPs π p lamp step made delay n A k := rfl
theorem xNew_BR {π : mMem} {p : Nat} {lamp step : Int} {A : Nat → Nat → Int} {B : Nat → Int} (h : BR (π p 9) (π p 10) B) (h3 : 0 < B 3) : BR (π p 9) (π p 10) (xNew π p lamp step A B) := by
  obtain ⟨b0, b2, b3, b4, b5, b6, b7, b8⟩ := h
  have hw := xWay_rng (B := B) (z := xBy π p lamp step B) b2
  have hlo := xLost_rng (π := π) (p := p) (lamp := lamp) (B := B) b4
  unfold BR xNew
  simp only [Nat.reduceEqDiff, if_false, if_true, reduceCtorEq]
  by_cases W : xWent π p lamp step A B
  · obtain ⟨-, ⟨w1, w2, w3, w4⟩, -⟩ := id W
    refine ⟨?_, ?_, by omega, hlo, b5, b6, b7, ?_⟩
    · rw [if_pos W, if_pos W]; exact ⟨w1, w2, w3, w4⟩
    · split <;> omega
    · rw [if_pos W]; omega
  · refine ⟨?_, ?_, by omega, hlo, b5, b6, b7, ?_⟩
    · rw [if_neg W, if_neg W]; exact b0
    · split
      · omega
      · exact hw
    · rw [if_neg W]; exact b8
theorem xPs_BR {π : mMem} {p : Nat} {lamp step made delay : Int} {A : Nat → Nat → Int} {n : Nat} (h : ∀ j, j < n → BR (π p 9) (π p 10) (A j)) : ∀ k, ∀ j, j < n → BR (π p 9) (π p 10) (xPs π p lamp step made delay k A j)
  | 0, j, hj => h j hj
  | k + 1, j, hj => by
    rw [xPs_s]
    split
    · rename_i e
      have ih := xPs_BR (lamp := lamp) (step := step) (made := made) (delay := delay) h k j hj
      rw [e.1] at ih
      exact xNew_BR ih e.2.2
    · exact xPs_BR h k j hj
theorem BR.congr {C R : Int} {B B' : Nat → Int} (hb : BEq B B') (h : BR C R B') : BR C R B := by
  unfold BR at *
  rw [hb 0 (by omega), hb 1 (by omega), hb 2 (by omega), hb 3 (by omega), hb 4 (by omega), hb 5 (by omega), hb 6 (by omega), hb 7 (by omega), hb 8 (by omega)]
  exact h
theorem z_pass {F o n p : Nat} {σ : mMem} {lamp step made delay : Int} (hn : n ≤ 6) (ho : 20 ≤ o) (hF : 2000 ≤ F) (hp : σ o 3 = 3 ∨ σ o 3 = 8) (hp2 : (σ o 3).toNat = p) (hP : PlC σ p) (h11 : σ p 11 = (n : Int)) (hA : ∀ j, j < n → BR (σ p 9) (σ p 10) (cB σ (o + 1) j)) (hlamp : σ o 5 = lamp) (hstep : σ o 4 = step) (hl : 0 ≤ lamp ∧ lamp ≤ 9) (hst : 0 ≤ step ∧ step ≤ 999) (hm : 0 ≤ made ∧ made ≤ 1000) (hd : 0 ≤ delay ∧ delay ≤ 9) :
    ∃ σ', g_X10_pass F o made delay σ = some (0, σ') ∧ (∀ q, q ≠ o → q ≠ o + 1 → q ≠ o + 2 → q ≠ o + 4 → q ≠ o + 5 → σ' q = σ q) ∧ (∀ j, j < n → BEq (cB σ' (o + 1) j) (xPs σ p lamp step made delay n (cB σ (o + 1)) j)) ∧ (∀ j, j < n → σ' (o + 2) j = xWf σ p lamp step made delay (cB σ (o + 1)) j) ∧ (∀ j, j < n → σ' (o + 1) (10 * j + 9) = σ (o + 1) (10 * j + 9) + xKf σ p lamp step made delay (cB σ (o + 1)) j) ∧ (∀ j, 10 * n ≤ j → σ' (o + 1) j = σ (o + 1) j) ∧
      σ' o 3 = σ o 3 ∧ σ' o 4 = min 999 (step + 1) ∧ σ' o 5 = lamp ∧ σ' o 6 = xSum (xWf σ p lamp step made delay (cB σ (o + 1))) n ∧ σ' o 7 = xSum (xKf σ p lamp step made delay (cB σ (o + 1))) n := by
  have hp8 : p ≤ 8 := by omega
  generalize hA0 : cB σ (o + 1) = A0 at *
  have key : ∀ (d k fuel : Nat) (τ : mMem), d + k = n → d < fuel → (∀ q, q ≠ o → q ≠ o + 1 → q ≠ o + 2 → q ≠ o + 4 → q ≠ o + 5 → τ q = σ q) → (∀ j, j < n → BEq (cB τ (o + 1) j) (xPs σ p lamp step made delay k A0 j)) → (∀ j, j < k → τ (o + 2) j = xWf σ p lamp step made delay A0 j) → (∀ j, j < n → τ (o + 1) (10 * j + 9) = σ (o + 1) (10 * j + 9) + if j < k then xKf σ p lamp step made delay A0 j else 0) → (∀ j, 10 * n ≤ j → τ (o + 1) j = σ (o + 1) j) →
      τ o 3 = σ o 3 → τ o 4 = step → τ o 5 = lamp → τ o 6 = xSum (xWf σ p lamp step made delay A0) k → τ o 7 = xSum (xKf σ p lamp step made delay A0) k →
      ∃ σ', g_X10_pass_h12 F o fuel made delay (k : Int) τ = some (0, σ') ∧ (∀ q, q ≠ o → q ≠ o + 1 → q ≠ o + 2 → q ≠ o + 4 → q ≠ o + 5 → σ' q = σ q) ∧ (∀ j, j < n → BEq (cB σ' (o + 1) j) (xPs σ p lamp step made delay n A0 j)) ∧ (∀ j, j < n → σ' (o + 2) j = xWf σ p lamp step made delay A0 j) ∧ (∀ j, j < n → σ' (o + 1) (10 * j + 9) = σ (o + 1) (10 * j + 9) + xKf σ p lamp step made delay A0 j) ∧ (∀ j, 10 * n ≤ j → σ' (o + 1) j = σ (o + 1) j) ∧
        σ' o 3 = σ o 3 ∧ σ' o 4 = min 999 (step + 1) ∧ σ' o 5 = lamp ∧ σ' o 6 = xSum (xWf σ p lamp step made delay A0) n ∧ σ' o 7 = xSum (xKf σ p lamp step made delay A0) n := by
    intro d
    induction d with
    | zero =>
      intro k fuel τ hdk hf i1 i2 i3 i5 i6 o3 o4 o5 o6 o7
      obtain ⟨f, rfl⟩ : ∃ f, fuel = f + 1 := ⟨fuel - 1, by omega⟩
      have hkn : k = n := by omega
      subst hkn
      have tp : τ p = σ p := i1 p (by omega) (by omega) (by omega) (by omega) (by omega)
      refine ⟨mup τ o 4 (min 999 (step + 1)), ?_, ?_, ?_, ?_, ?_, ?_, ?_, ?_, ?_, ?_, ?_⟩
      · unfold g_X10_pass_h12
        rw [o3]
        refine e_t hp ?_
        rw [hp2, tp, h11]
        refine e_t (Int.le_refl _) ?_
        unfold g_X10_pass_b66
        rw [o4]
        exact e_mob (z_min (by omega)) (e_mem rfl)
      · intro q q0 q1 q2 q4 q5
        rw [mup_off q0]
        exact i1 q q0 q1 q2 q4 q5
      · intro j hj f hf
        show mup τ o 4 _ (o + 1) _ = _
        rw [mup_off (by omega)]
        exact i2 j hj f hf
      · intro j hj
        rw [mup_off (by omega)]
        exact i3 j hj
      · intro j hj
        rw [mup_off (by omega), i5 j hj, if_pos hj]
      · intro j hj
        rw [mup_off (by omega)]
        exact i6 j hj
      · rw [mup_ne (by omega)]; exact o3
      · rw [mup_at rfl rfl]
      · rw [mup_ne (by omega)]; exact o5
      · rw [mup_ne (by omega)]; exact o6
      · rw [mup_ne (by omega)]; exact o7
    | succ d ih =>
      intro k fuel τ hdk hf i1 i2 i3 i5 i6 o3 o4 o5 o6 o7
      obtain ⟨f, rfl⟩ : ∃ f, fuel = f + 1 := ⟨fuel - 1, by omega⟩
      have hk : k < n := by omega
      have tp : τ p = σ p := i1 p (by omega) (by omega) (by omega) (by omega) (by omega)
      have hBRk : ∀ j, j < n → BR (σ p 9) (σ p 10) (xPs σ p lamp step made delay k A0 j) := xPs_BR hA k
      have hkd : 0 ≤ (k : Int) * delay ∧ (k : Int) * delay ≤ 54 := by
        have h1 : (k : Int) * delay ≤ 6 * 9 := Int.mul_le_mul (by omega) (by omega) (by omega) (by omega)
        have h2 : 0 ≤ (k : Int) * delay := Int.mul_nonneg (by omega) (by omega)
        omega
      -- the flag of the box is put out
      have hhead : ∀ X, (if mw made < mw ((k : Int) * delay) then (g_X10_pass_b60 F o (g_X10_pass_h12 F o f) made delay (k : Int) (mup τ (o + 2) k 0)) else (mob (g_X10_of F o (k : Int) 3 (mup τ (o + 2) k 0)) (fun r105 σ106 => if mw r105 ≤ 0 then (g_X10_pass_b60 F o (g_X10_pass_h12 F o f) made delay (k : Int) σ106) else (mob (g_X10_moveBox F o (k : Int) σ106) (fun r107 σ108 => g_X10_pass_b60 F o (g_X10_pass_h12 F o f) made delay (k : Int) σ108))))) = X → g_X10_pass_h12 F o (f + 1) made delay (k : Int) τ = X := by
        intro X hX
        conv => lhs; unfold g_X10_pass_h12
        rw [o3]
        refine e_t hp ?_
        rw [hp2, tp, h11]
        refine e_f (by rw [mw_id (by omega) (by omega), mw_id (by omega) (by omega)]; omega) ?_
        refine e_f (by rw [mw_id (by omega) (by omega), mw_id (by omega) (by omega)]; omega) ?_
        refine e_t (by rw [mw_id (z := (k : Int)) (by omega) (by omega)]; exact ⟨by omega, by omega, Or.inl (by decide)⟩) ?_
        rw [show (mw (k : Int)).toNat = k by rw [mw_id (by omega) (by omega)]; omega]
        exact e_mem hX
      generalize hυ : mup τ (o + 2) k 0 = υ at *
      have u2 : υ (o + 2) = mup1 (τ (o + 2)) k 0 := by rw [← hυ, mup_row]
      have uo : ∀ q, q ≠ o + 2 → υ q = τ q := fun q hq => by rw [← hυ, mup_off hq]
      have uB : ∀ j, j < n → BEq (cB υ (o + 1) j) (xPs σ p lamp step made delay k A0 j) := fun j hj f hf => by
        show υ (o + 1) _ = _
        rw [uo _ (by omega)]
        exact i2 j hj f hf
      -- a box that does nothing
      have idle : ¬ xAct made delay (xPs σ p lamp step made delay k A0) k → ∃ σ', g_X10_pass_b60 F o (g_X10_pass_h12 F o f) made delay (k : Int) υ = some (0, σ') ∧ (∀ q, q ≠ o → q ≠ o + 1 → q ≠ o + 2 → q ≠ o + 4 → q ≠ o + 5 → σ' q = σ q) ∧ (∀ j, j < n → BEq (cB σ' (o + 1) j) (xPs σ p lamp step made delay n A0 j)) ∧ (∀ j, j < n → σ' (o + 2) j = xWf σ p lamp step made delay A0 j) ∧ (∀ j, j < n → σ' (o + 1) (10 * j + 9) = σ (o + 1) (10 * j + 9) + xKf σ p lamp step made delay A0 j) ∧ (∀ j, 10 * n ≤ j → σ' (o + 1) j = σ (o + 1) j) ∧
        σ' o 3 = σ o 3 ∧ σ' o 4 = min 999 (step + 1) ∧ σ' o 5 = lamp ∧ σ' o 6 = xSum (xWf σ p lamp step made delay A0) n ∧ σ' o 7 = xSum (xKf σ p lamp step made delay A0) n := by
        intro hna
        have w0 : xWf σ p lamp step made delay A0 k = 0 := mb_f (fun q => hna q.1)
        have k0 : xKf σ p lamp step made delay A0 k = 0 := mb_f (fun q => hna q.1)
        have r := ih (k + 1) f υ (by omega) (by omega) (fun q q0 q1 q2 q4 q5 => by rw [uo q q2]; exact i1 q q0 q1 q2 q4 q5)
          (fun j hj => by rw [xPs_s, if_neg (fun q => hna q.2)]; exact uB j hj)
          (fun j hj => by
            rw [u2]
            by_cases e : j = k
            · rw [mup1_at e, e, w0]
            · rw [mup1_ne e]; exact i3 j (by omega))
          (fun j hj => by
            rw [uo _ (by omega), i5 j hj]
            by_cases e : j = k
            · rw [e, if_neg (by omega), if_pos (by omega), k0]
            · by_cases e2 : j < k
              · rw [if_pos e2, if_pos (by omega)]
              · rw [if_neg e2, if_neg (by omega)])
          (fun j hj => by rw [uo _ (by omega)]; exact i6 j hj)
          (by rw [uo _ (by omega)]; exact o3) (by rw [uo _ (by omega)]; exact o4) (by rw [uo _ (by omega)]; exact o5)
          (by rw [uo _ (by omega), o6]; show _ = xSum _ k + _; rw [w0, Int.add_zero]) (by rw [uo _ (by omega), o7]; show _ = xSum _ k + _; rw [k0, Int.add_zero])
        unfold g_X10_pass_b60
        exact r
      by_cases hac : xAct made delay (xPs σ p lamp step made delay k A0) k
      · have hpw : 0 < υ (o + 1) (10 * k + 3) := by
          have := uB k hk 3 (by omega)
          rw [show υ (o + 1) (10 * k + 3) = _ from this]
          exact hac.2
        have up : υ p = σ p := by rw [uo _ (by omega)]; exact tp
        have hPE : PEq σ υ p := ⟨up.symm, by rw [uo _ (by omega), i1 _ (by omega) (by omega) (by omega) (by omega) (by omega)], by rw [uo _ (by omega), i1 _ (by omega) (by omega) (by omega) (by omega) (by omega)]⟩
        have u9 : υ (o + 1) (10 * k + 3) ≤ 999 := by
          have h1 := uB k hk 3 (by omega)
          have h2 := (hBRk k hk).2.2.1
          rw [show υ (o + 1) (10 * k + 3) = _ from h1]
          exact h2.2
        obtain ⟨σ1, e1, e2, e3, e4, e5, e6, e7⟩ := z_moveBox (F := F) (o := o) (k := k) (n := n) (p := p) (σ := υ) (lamp := lamp) (step := step) hk hn ho hF (by rw [uo _ (by omega), o3]; exact hp) (by rw [uo _ (by omega), o3]; exact hp2) (hP.same hPE.1.symm hPE.2.1.symm hPE.2.2.symm) (by rw [up]; exact h11) (fun j hj => by rw [up]; exact BR.congr (uB j hj) (hBRk j hj)) (by rw [uo _ (by omega)]; exact o5) (by rw [uo _ (by omega)]; exact o4) hl (by omega)
        have hAc : ∀ j, j < (υ p 11).toNat → cB υ (o + 1) j 0 = xPs σ p lamp step made delay k A0 j 0 ∧ cB υ (o + 1) j 1 = xPs σ p lamp step made delay k A0 j 1 := fun j hj => by
          rw [up, h11, Int.toNat_natCast] at hj
          exact ⟨uB j hj 0 (by omega), uB j hj 1 (by omega)⟩
        have hPE' : PEq υ σ p := ⟨hPE.1.symm, hPE.2.1.symm, hPE.2.2.symm⟩
        have cW : xWent υ p lamp step (cB υ (o + 1)) (cB υ (o + 1) k) ↔ xWent σ p lamp step (xPs σ p lamp step made delay k A0) (xPs σ p lamp step made delay k A0 k) := xWent_c hPE' hAc (uB k hk)
        have cK : xBlk υ p lamp step (cB υ (o + 1)) (cB υ (o + 1) k) ↔ xBlk σ p lamp step (xPs σ p lamp step made delay k A0) (xPs σ p lamp step made delay k A0 k) := xBlk_c hPE' hAc (uB k hk)
        have wf : mb (xWent υ p lamp step (cB υ (o + 1)) (cB υ (o + 1) k)) = xWf σ p lamp step made delay A0 k := mb_congr ⟨fun q => ⟨hac, cW.mp q⟩, fun q => cW.mpr q.2⟩
        have kf : mb (xBlk υ p lamp step (cB υ (o + 1)) (cB υ (o + 1) k)) = xKf σ p lamp step made delay A0 k := mb_congr ⟨fun q => ⟨hac, cK.mp q⟩, fun q => cK.mpr q.2⟩
        have r := ih (k + 1) f σ1 (by omega) (by omega) (fun q q0 q1 q2 q4 q5 => by rw [e2 q q0 q1 q2 q4 q5, uo q q2]; exact i1 q q0 q1 q2 q4 q5)
          (fun j hj => by
            rw [xPs_s]
            by_cases e : j = k
            · rw [if_pos ⟨e, hac⟩, e]
              intro f hf
              rw [e3 f hf]
              exact xNew_c hPE' hAc (uB k hk) f hf
            · rw [if_neg (fun q => e q.1)]
              intro f hf
              show σ1 (o + 1) _ = _
              rw [e5 _ (by omega)]
              exact uB j hj f hf)
          (fun j hj => by
            rw [e6 j]
            by_cases e : j = k
            · rw [e, u2, mup1_at rfl]
              by_cases hw : xWent υ p lamp step (cB υ (o + 1)) (cB υ (o + 1) k)
              · rw [if_pos ⟨rfl, hw⟩, ← wf, mb_t hw]
              · rw [if_neg (fun q => hw q.2), ← wf, mb_f hw]
            · rw [if_neg (fun q => e q.1), u2, mup1_ne e]
              exact i3 j (by omega))
          (fun j hj => by
            by_cases e : j = k
            · rw [e, e4, uo _ (by omega), i5 k hk, if_neg (by omega), if_pos (by omega), kf, Int.add_zero]
            · rw [e5 _ (by omega), uo _ (by omega), i5 j hj]
              by_cases e8 : j < k
              · rw [if_pos e8, if_pos (by omega)]
              · rw [if_neg e8, if_neg (by omega)])
          (fun j hj => by rw [e5 _ (by omega), uo _ (by omega)]; exact i6 j hj)
          (by rw [e7, if_neg (by omega), if_neg (by omega), uo _ (by omega)]; exact o3) (by rw [e7, if_neg (by omega), if_neg (by omega), uo _ (by omega)]; exact o4) (by rw [e7, if_neg (by omega), if_neg (by omega), uo _ (by omega)]; exact o5)
          (by rw [e7, if_pos rfl, uo _ (by omega), o6, wf]; rfl) (by rw [e7, if_neg (by omega), if_pos rfl, uo _ (by omega), o7, kf]; rfl)
        obtain ⟨σ2, r1, r2⟩ := r
        refine ⟨σ2, ?_, r2⟩
        apply hhead
        refine e_f (by rw [mw_id (by omega) (by omega), mw_id (by omega) (by omega)]; have := hac.1; omega) ?_
        refine e_mob (zo_3 (by omega)) ?_
        refine e_f (by rw [mw_id (by omega) (by omega)]; omega) ?_
        refine e_mob e1 ?_
        unfold g_X10_pass_b60
        exact r1
      · obtain ⟨σ2, r1, r2⟩ := idle hac
        refine ⟨σ2, ?_, r2⟩
        apply hhead
        by_cases h1 : (k : Int) * delay ≤ made
        · refine e_f (by rw [mw_id (by omega) (by omega), mw_id (by omega) (by omega)]; omega) ?_
          refine e_mob (zo_3 (by omega)) ?_
          have h3 : ¬ 0 < υ (o + 1) (10 * k + 3) := fun q => hac ⟨h1, by rw [← uB k hk 3 (by omega)]; exact q⟩
          have h4 : 0 ≤ υ (o + 1) (10 * k + 3) := by
            have h5 := uB k hk 3 (by omega)
            have h6 := (hBRk k hk).2.2.1
            rw [show υ (o + 1) (10 * k + 3) = _ from h5]
            exact h6.1
          exact e_t (by rw [mw_id (by omega) (by omega)]; omega) r1
        · exact e_t (by rw [mw_id (by omega) (by omega), mw_id (by omega) (by omega)]; omega) r1
  obtain ⟨σ', r⟩ := key n 0 F (mup (mup σ o 6 0) o 7 0) (by omega) (by omega) (fun q q0 q1 q2 q4 q5 => by rw [mup_off q0, mup_off q0])
    (fun j hj f hf => by
      show mup (mup σ o 6 0) o 7 0 (o + 1) (10 * j + f) = A0 j f
      rw [mup_off (by omega), mup_off (by omega), ← hA0])
    (fun j hj => absurd hj (Nat.not_lt_zero j)) (fun j hj => by rw [mup_off (by omega), mup_off (by omega), if_neg (by omega), Int.add_zero]) (fun j hj => by rw [mup_off (by omega), mup_off (by omega)])
    (by rw [mup_ne (by omega), mup_ne (by omega)]) (by rw [mup_ne (by omega), mup_ne (by omega)]; exact hstep) (by rw [mup_ne (by omega), mup_ne (by omega)]; exact hlamp) (by rw [mup_ne (by omega), mup_at rfl rfl]; rfl) (by rw [mup_at rfl rfl]; rfl)
  refine ⟨σ', ?_, r.2⟩
  unfold g_X10_pass
  exact e_mem (e_mem r.1)
