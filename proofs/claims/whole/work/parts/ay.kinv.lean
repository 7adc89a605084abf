/-! LAYER 2: kitchen: no fault, no place (written by gen/kinv.py) -/
def KI (kc : Bool) (σ : mMem) : Prop := (kc = true → σ 14 10 = 0 → σ 14 11 = -1) ∧ (kc = false → σ 86 8 = 0 → σ 86 9 = -1)
theorem KI.of {kc : Bool} {σ σ' : mMem} (h : ∀ q j : Nat, ((q = 14 ∧ (j = 10 ∨ j = 11)) ∨ (q = 86 ∧ (j = 8 ∨ j = 9))) → σ' q j = σ q j) (hv : KI kc σ) : KI kc σ' := by
  unfold KI at *
  rw [h 14 10 (by decide), h 14 11 (by decide), h 86 8 (by decide), h 86 9 (by decide)]
  exact hv
theorem KI.up {kc : Bool} {σ : mMem} {o k : Nat} {z : Int} (hv : KI kc σ) (h : ¬ ((o = 14 ∧ (k = 10 ∨ k = 11)) ∨ (o = 86 ∧ (k = 8 ∨ k = 9)))) : KI kc (mup σ o k z) := KI.of (fun q j hq => mup_ne (by omega)) hv
theorem KI.upo {kc : Bool} {σ : mMem} {o : Nat} {f : Nat → Int} (hv : KI kc σ) (h : ¬ (o = 14 ∨ o = 86)) : KI kc (mupo σ o f) := KI.of (fun q j hq => mupo_ne (by omega)) hv
theorem fk_mem {kc : Bool} {P : Prop} {τ : mMem} {z : Int × mMem} {k : mMem → mRs} (hf : mlm τ k = some z) (hv : KI kc τ) (k1 : ∀ τ : mMem, KI kc τ → k τ = some z → P) : P := k1 τ hv hf
theorem k_X8_refuseHere {kc : Bool} {F : Nat} {x1 r : Int} {σ σ' : mMem} (hx : ¬ x1 = 0) (hf : g_X8_refuseHere F x1 σ = some (r, σ')) (hv : KI kc σ) : KI kc σ' := by
  have h86 := f_X8_refuseHere hf
  refine ⟨fun b0 h => ?_, fun b0 h => ?_⟩
  · unfold g_X8_refuseHere g_X8_refuseHere_b20 at hf
    refine f_ite hf (fun hf => ?_) (fun hf => ?_)
    · cases hf
      rw [mup_ne (by decide), mup_ne (by decide)] at h ⊢
      exact hv.1 b0 h
    · cases hf
      rw [mup_ne (by decide), mup_ne (by decide), mup_ne (by decide), mup_at rfl rfl] at h
      exact absurd h hx
  · rw [h86 86 8 (by unfold T_X8_refuseHere; decide)] at h
    rw [h86 86 9 (by unfold T_X8_refuseHere; decide)]
    exact hv.2 b0 h
theorem k_X12_blame {kc : Bool} {F : Nat} {x1 x2 r : Int} {σ σ' : mMem} (hx : ¬ x1 = 0) (hf : g_X12_blame F x1 x2 σ = some (r, σ')) (hv : KI kc σ) : KI kc σ' := by
  have h14 := f_X12_blame hf
  refine ⟨fun b0 h => ?_, fun b0 h => ?_⟩
  · rw [h14 14 10 (by unfold T_X12_blame; decide)] at h
    rw [h14 14 11 (by unfold T_X12_blame; decide)]
    exact hv.1 b0 h
  · unfold g_X12_blame at hf
    refine f_ite hf (fun hf => ?_) (fun hf => ?_)
    · cases hf
      rw [mup_ne (by decide), mup_at rfl rfl] at h
      exact absurd h hx
    · cases hf
      exact hv.2 b0 h
theorem k_X8_next_b48 {kc : Bool} {F : Nat}  {r : Int} {σ' : mMem}   {σ : mMem} (hf : g_X8_next_b48 F  σ = some (r, σ')) (hv : KI kc σ) : KI kc σ' := by
  unfold g_X8_next_b48 at hf
  refine fk_mem hf (KI.up hv (by omega)) (fun σ108 hv hf => ?_)
  refine fk_mem hf (KI.up hv (by omega)) (fun σ109 hv hf => ?_)
  refine fk_mem hf (KI.up hv (by omega)) (fun σ110 hv hf => ?_)
  cases hf
  exact hv
theorem k_X8_next_b130 {kc : Bool} {F : Nat}  {r : Int} {σ' : mMem}   {σ : mMem} (hf : g_X8_next_b130 F  σ = some (r, σ')) (hv : KI kc σ) : KI kc σ' := by
  unfold g_X8_next_b130 at hf
  cases hf
  exact hv
theorem k_X8_next {kc : Bool} {F : Nat}  {r : Int} {σ' : mMem} {σ : mMem} (hf : g_X8_next F σ = some (r, σ')) (hv : KI kc σ) : KI kc σ' := by
  unfold g_X8_next at hf
  refine f_ite hf (fun hf => ?_) (fun hf => ?_)
  · refine fk_mem hf (KI.up hv (by omega)) (fun σ1 hv hf => ?_)
    refine f_ite hf (fun hf => ?_) (fun hf => ?_)
    · exact k_X8_next_b48 hf hv
    · refine f_ite hf (fun hf => ?_) (fun hf => ?_)
      · exact k_X8_next_b48 hf hv
      · refine f_ite hf (fun hf => ?_) (fun hf => ?_)
        · refine f_gd hf (fun hf => ?_)
          refine fk_mem hf (KI.up hv (by omega)) (fun σ2 hv hf => ?_)
          refine f_gd hf (fun hf => ?_)
          refine fk_mem hf (KI.up hv (by omega)) (fun σ3 hv hf => ?_)
          refine f_gd hf (fun hf => ?_)
          refine fk_mem hf (KI.up hv (by omega)) (fun σ4 hv hf => ?_)
          refine f_ite hf (fun hf => ?_) (fun hf => ?_)
          · exact k_X8_next_b130 hf hv
          · refine fk_mem hf (KI.up hv (by omega)) (fun σ5 hv hf => ?_)
            refine f_mob hf (fun r6 σ7 h1 hf => ?_)
            have hv := k_X8_refuseHere (by decide) h1 hv
            exact k_X8_next_b130 hf hv
        · exact k_X8_next_b48 hf hv
  · cases hf
    exact hv
theorem k_X1_passOpening {kc : Bool} {F : Nat}  {r : Int} {σ' : mMem} {x1 : Int} {σ : mMem} (hf : g_X1_passOpening F x1 σ = some (r, σ')) (hv : KI kc σ) : KI kc σ' := by
  unfold g_X1_passOpening at hf
  refine f_ite hf (fun hf => ?_) (fun hf => ?_)
  · refine f_mob hf (fun r1 σ2 h1 hf => ?_)
    have hv := k_X8_next h1 hv
    refine f_gd hf (fun hf => ?_)
    cases hf
    exact hv
  · refine f_mob hf (fun r3 σ4 h1 hf => ?_)
    have hv := k_X8_refuseHere (by decide) h1 hv
    refine f_gd hf (fun hf => ?_)
    cases hf
    exact hv
theorem k_X8_takeMark_b13 {kc : Bool} {F : Nat}  {r : Int} {σ' : mMem}   {σ : mMem} (hf : g_X8_takeMark_b13 F  σ = some (r, σ')) (hv : KI kc σ) : KI kc σ' := by
  unfold g_X8_takeMark_b13 at hf
  refine f_mob hf (fun r105 σ106 h1 hf => ?_)
  have hv := k_X8_next h1 hv
  cases hf
  exact hv
theorem k_X8_takeMark {kc : Bool} {F : Nat}  {r : Int} {σ' : mMem} {x1 : Int} {σ : mMem} (hf : g_X8_takeMark F x1 σ = some (r, σ')) (hv : KI kc σ) : KI kc σ' := by
  unfold g_X8_takeMark at hf
  refine f_mob hf (fun r1 σ2 h1 hf => ?_)
  have hv := KI.of (fun q j hq => f_X8_isMark h1 q j (by unfold T_X8_isMark; exact id)) hv
  refine f_ite hf (fun hf => ?_) (fun hf => ?_)
  · exact k_X8_takeMark_b13 hf hv
  · refine f_mob hf (fun r3 σ4 h1 hf => ?_)
    have hv := k_X8_refuseHere (by decide) h1 hv
    exact k_X8_takeMark_b13 hf hv
theorem k_X1_known_b59 {kc : Bool} {F : Nat}  {r : Int} {σ' : mMem}   {σ : mMem} (hf : g_X1_known_b59 F  σ = some (r, σ')) (hv : KI kc σ) : KI kc σ' := by
  unfold g_X1_known_b59 at hf
  refine f_mob hf (fun r403 σ404 h1 hf => ?_)
  have hv := k_X8_refuseHere (by decide) h1 hv
  cases hf
  exact hv
theorem k_X1_known_b68 {kc : Bool} {F : Nat}  {r : Int} {σ' : mMem}   {x1 : Int} {σ : mMem} (hf : g_X1_known_b68 F x1 σ = some (r, σ')) (hv : KI kc σ) : KI kc σ' := by
  unfold g_X1_known_b68 at hf
  refine f_gp hf (fun hg505 hf => ?_)
  refine f_mob hf (fun r506 σ507 h1 hf => ?_)
  have hv := KI.of (fun q j hq => f_X5_emit h1 q j (by unfold T_X5_emit; rcases hg505 with hz | hz <;> rw [hz] <;> omega)) hv
  refine f_mob hf (fun r508 σ509 h1 hf => ?_)
  have hv := k_X8_next h1 hv
  cases hf
  exact hv
theorem k_X1_known_b42 {kc : Bool} {F : Nat}  {r : Int} {σ' : mMem}   {x1 t0 : Int} {σ : mMem} (hf : g_X1_known_b42 F x1 t0 σ = some (r, σ')) (hv : KI kc σ) : KI kc σ' := by
  unfold g_X1_known_b42 at hf
  refine f_ite hf (fun hf => ?_) (fun hf => ?_)
  · exact k_X1_known_b59 hf hv
  · refine f_ite hf (fun hf => ?_) (fun hf => ?_)
    · exact k_X1_known_b68 hf hv
    · refine f_ite hf (fun hf => ?_) (fun hf => ?_)
      · exact k_X1_known_b68 hf hv
      · exact k_X1_known_b59 hf hv
theorem k_X1_known_b37 {kc : Bool} {F : Nat}  {r : Int} {σ' : mMem}   {x1 : Int} {σ : mMem} (hf : g_X1_known_b37 F x1 σ = some (r, σ')) (hv : KI kc σ) : KI kc σ' := by
  unfold g_X1_known_b37 at hf
  exact k_X1_known_b42 hf hv
theorem k_X1_known_b25 {kc : Bool} {F : Nat}  {r : Int} {σ' : mMem}   {t0 : Int} {σ : mMem} (hf : g_X1_known_b25 F t0 σ = some (r, σ')) (hv : KI kc σ) : KI kc σ' := by
  unfold g_X1_known_b25 at hf
  refine f_ite hf (fun hf => ?_) (fun hf => ?_)
  · exact k_X1_known_b37 hf hv
  · refine f_ite hf (fun hf => ?_) (fun hf => ?_)
    · exact k_X1_known_b42 hf hv
    · exact k_X1_known_b37 hf hv
theorem k_X1_known {kc : Bool} {F : Nat}  {r : Int} {σ' : mMem} {σ : mMem} (hf : g_X1_known F σ = some (r, σ')) (hv : KI kc σ) : KI kc σ' := by
  unfold g_X1_known at hf
  refine f_ite hf (fun hf => ?_) (fun hf => ?_)
  · exact k_X1_known_b25 hf hv
  · refine f_mob hf (fun r1 σ2 h1 hf => ?_)
    have hv := KI.of (fun q j hq => f_X1_knownOf h1 q j (by unfold T_X1_knownOf; exact id)) hv
    exact k_X1_known_b25 hf hv
theorem k_X1_test_b54 {kc : Bool} {F : Nat}  {rc : Nat → Int → Int → mMem → mRs} (hrec : ∀ (t : Nat) (a b : Int) (σ : mMem) (r : Int) (σ' : mMem), rc t a b σ = some (r, σ') → KI kc σ → KI kc σ') {r : Int} {σ' : mMem}   {σ : mMem} (hf : g_X1_test_b54 rc F  σ = some (r, σ')) (hv : KI kc σ) : KI kc σ' := by
  unfold g_X1_test_b54 at hf
  cases hf
  exact hv
theorem k_X1_test_h7 {kc : Bool} {F : Nat}  {rc : Nat → Int → Int → mMem → mRs} (hrec : ∀ (t : Nat) (a b : Int) (σ : mMem) (r : Int) (σ' : mMem), rc t a b σ = some (r, σ') → KI kc σ → KI kc σ') {r : Int} {σ' : mMem}   (n : Nat) : ∀ {x1 x2 : Int} {σ : mMem} (_ : g_X1_test_h7 rc F n x1 x2 σ = some (r, σ')), KI kc σ → KI kc σ' := by
  induction n with
  | zero =>
    intro x1 x2 σ hf hv
    unfold g_X1_test_h7 at hf
    cases hf
  | succ n ih =>
    have hk7 : ∀ (x1 x2 : Int) (σ : mMem), g_X1_test_h7 rc F n x1 x2 σ = some (r, σ') → KI kc σ → KI kc σ' := fun x1 x2 σ hf => ih hf
    intro x1 x2 σ hf hv
    unfold g_X1_test_h7 at hf
    refine f_ite hf (fun hf => ?_) (fun hf => ?_)
    · exact k_X1_test_b54 hrec hf hv
    · refine f_mob hf (fun r103 σ104 h1 hf => ?_)
      have hv := KI.of (fun q j hq => f_X8_isWord h1 q j (by unfold T_X8_isWord; exact id)) hv
      refine f_ite hf (fun hf => ?_) (fun hf => ?_)
      · exact k_X1_test_b54 hrec hf hv
      · refine f_mob hf (fun r105 σ106 h1 hf => ?_)
        have hv := k_X8_next h1 hv
        refine f_mob hf (fun r107 σ108 h1 hf => ?_)
        have hv := hrec _ _ _ _ _ _ h1 hv
        refine f_gp hf (fun hg109 hf => ?_)
        refine f_mob hf (fun r110 σ111 h1 hf => ?_)
        have hv := KI.of (fun q j hq => f_X5_emit h1 q j (by unfold T_X5_emit; rcases hg109 with hz | hz <;> rw [hz] <;> omega)) hv
        exact hk7 _ _ _ hf hv
theorem k_X1_test {kc : Bool} {F : Nat}  {rc : Nat → Int → Int → mMem → mRs} (hrec : ∀ (t : Nat) (a b : Int) (σ : mMem) (r : Int) (σ' : mMem), rc t a b σ = some (r, σ') → KI kc σ → KI kc σ') {r : Int} {σ' : mMem} {x1 : Int} {σ : mMem} (hf : g_X1_test rc F x1 σ = some (r, σ')) (hv : KI kc σ) : KI kc σ' := by
  unfold g_X1_test at hf
  refine f_mob hf (fun r1 σ2 h1 hf => ?_)
  have hv := hrec _ _ _ _ _ _ h1 hv
  exact k_X1_test_h7 hrec _ hf hv
theorem k_X1_both_b54 {kc : Bool} {F : Nat}  {rc : Nat → Int → Int → mMem → mRs} (hrec : ∀ (t : Nat) (a b : Int) (σ : mMem) (r : Int) (σ' : mMem), rc t a b σ = some (r, σ') → KI kc σ → KI kc σ') {r : Int} {σ' : mMem}   {σ : mMem} (hf : g_X1_both_b54 rc F  σ = some (r, σ')) (hv : KI kc σ) : KI kc σ' := by
  unfold g_X1_both_b54 at hf
  cases hf
  exact hv
theorem k_X1_both_h7 {kc : Bool} {F : Nat}  {rc : Nat → Int → Int → mMem → mRs} (hrec : ∀ (t : Nat) (a b : Int) (σ : mMem) (r : Int) (σ' : mMem), rc t a b σ = some (r, σ') → KI kc σ → KI kc σ') {r : Int} {σ' : mMem}   (n : Nat) : ∀ {x1 x2 : Int} {σ : mMem} (_ : g_X1_both_h7 rc F n x1 x2 σ = some (r, σ')), KI kc σ → KI kc σ' := by
  induction n with
  | zero =>
    intro x1 x2 σ hf hv
    unfold g_X1_both_h7 at hf
    cases hf
  | succ n ih =>
    have hk7 : ∀ (x1 x2 : Int) (σ : mMem), g_X1_both_h7 rc F n x1 x2 σ = some (r, σ') → KI kc σ → KI kc σ' := fun x1 x2 σ hf => ih hf
    intro x1 x2 σ hf hv
    unfold g_X1_both_h7 at hf
    refine f_ite hf (fun hf => ?_) (fun hf => ?_)
    · exact k_X1_both_b54 hrec hf hv
    · refine f_mob hf (fun r103 σ104 h1 hf => ?_)
      have hv := KI.of (fun q j hq => f_X8_isWord h1 q j (by unfold T_X8_isWord; exact id)) hv
      refine f_ite hf (fun hf => ?_) (fun hf => ?_)
      · exact k_X1_both_b54 hrec hf hv
      · refine f_mob hf (fun r105 σ106 h1 hf => ?_)
        have hv := k_X8_next h1 hv
        refine f_mob hf (fun r107 σ108 h1 hf => ?_)
        have hv := hrec _ _ _ _ _ _ h1 hv
        refine f_gp hf (fun hg109 hf => ?_)
        refine f_mob hf (fun r110 σ111 h1 hf => ?_)
        have hv := KI.of (fun q j hq => f_X5_emit h1 q j (by unfold T_X5_emit; rcases hg109 with hz | hz <;> rw [hz] <;> omega)) hv
        exact hk7 _ _ _ hf hv
theorem k_X1_both {kc : Bool} {F : Nat}  {rc : Nat → Int → Int → mMem → mRs} (hrec : ∀ (t : Nat) (a b : Int) (σ : mMem) (r : Int) (σ' : mMem), rc t a b σ = some (r, σ') → KI kc σ → KI kc σ') {r : Int} {σ' : mMem} {x1 : Int} {σ : mMem} (hf : g_X1_both rc F x1 σ = some (r, σ')) (hv : KI kc σ) : KI kc σ' := by
  unfold g_X1_both at hf
  refine f_mob hf (fun r1 σ2 h1 hf => ?_)
  have hv := hrec _ _ _ _ _ _ h1 hv
  exact k_X1_both_h7 hrec _ hf hv
theorem k_X1_fact_b114 {kc : Bool} {F : Nat}  {rc : Nat → Int → Int → mMem → mRs} (hrec : ∀ (t : Nat) (a b : Int) (σ : mMem) (r : Int) (σ' : mMem), rc t a b σ = some (r, σ') → KI kc σ → KI kc σ') {r : Int} {σ' : mMem}   {σ : mMem} (hf : g_X1_fact_b114 rc F  σ = some (r, σ')) (hv : KI kc σ) : KI kc σ' := by
  unfold g_X1_fact_b114 at hf
  cases hf
  exact hv
theorem k_X1_fact {kc : Bool} {F : Nat}  {rc : Nat → Int → Int → mMem → mRs} (hrec : ∀ (t : Nat) (a b : Int) (σ : mMem) (r : Int) (σ' : mMem), rc t a b σ = some (r, σ') → KI kc σ → KI kc σ') {r : Int} {σ' : mMem} {x1 : Int} {σ : mMem} (hf : g_X1_fact rc F x1 σ = some (r, σ')) (hv : KI kc σ) : KI kc σ' := by
  unfold g_X1_fact at hf
  refine f_mob hf (fun r1 σ2 h1 hf => ?_)
  have hv := KI.of (fun q j hq => f_X8_isWord h1 q j (by unfold T_X8_isWord; exact id)) hv
  refine f_ite hf (fun hf => ?_) (fun hf => ?_)
  · refine f_mob hf (fun r3 σ4 h1 hf => ?_)
    have hv := KI.of (fun q j hq => f_X8_isMark h1 q j (by unfold T_X8_isMark; exact id)) hv
    refine f_ite hf (fun hf => ?_) (fun hf => ?_)
    · refine f_mob hf (fun r5 σ6 h1 hf => ?_)
      have hv := KI.of (fun q j hq => f_X8_isWord h1 q j (by unfold T_X8_isWord; exact id)) hv
      refine f_ite hf (fun hf => ?_) (fun hf => ?_)
      · refine f_mob hf (fun r7 σ8 h1 hf => ?_)
        have hv := hrec _ _ _ _ _ _ h1 hv
        exact k_X1_fact_b114 hrec hf hv
      · refine f_mob hf (fun r9 σ10 h1 hf => ?_)
        have hv := k_X8_next h1 hv
        refine f_gp hf (fun hg11 hf => ?_)
        refine f_mob hf (fun r12 σ13 h1 hf => ?_)
        have hv := KI.of (fun q j hq => f_X5_emit h1 q j (by unfold T_X5_emit; rcases hg11 with hz | hz <;> rw [hz] <;> omega)) hv
        exact k_X1_fact_b114 hrec hf hv
    · refine f_mob hf (fun r14 σ15 h1 hf => ?_)
      have hv := k_X1_passOpening h1 hv
      refine f_ite hf (fun hf => ?_) (fun hf => ?_)
      · exact k_X1_fact_b114 hrec hf hv
      · refine f_mob hf (fun r16 σ17 h1 hf => ?_)
        have hv := hrec _ _ _ _ _ _ h1 hv
        refine f_mob hf (fun r18 σ19 h1 hf => ?_)
        have hv := k_X8_takeMark h1 hv
        exact k_X1_fact_b114 hrec hf hv
  · refine f_mob hf (fun r20 σ21 h1 hf => ?_)
    have hv := k_X1_passOpening h1 hv
    refine f_ite hf (fun hf => ?_) (fun hf => ?_)
    · exact k_X1_fact_b114 hrec hf hv
    · refine f_mob hf (fun r22 σ23 h1 hf => ?_)
      have hv := hrec _ _ _ _ _ _ h1 hv
      refine f_gp hf (fun hg24 hf => ?_)
      refine f_mob hf (fun r25 σ26 h1 hf => ?_)
      have hv := KI.of (fun q j hq => f_X5_emit h1 q j (by unfold T_X5_emit; rcases hg24 with hz | hz <;> rw [hz] <;> omega)) hv
      exact k_X1_fact_b114 hrec hf hv
theorem k_X1_comparison_b70 {kc : Bool} {F : Nat}  {rc : Nat → Int → Int → mMem → mRs} (hrec : ∀ (t : Nat) (a b : Int) (σ : mMem) (r : Int) (σ' : mMem), rc t a b σ = some (r, σ') → KI kc σ → KI kc σ') {r : Int} {σ' : mMem}   {x1 x2 : Int} {σ : mMem} (hf : g_X1_comparison_b70 rc F x1 x2 σ = some (r, σ')) (hv : KI kc σ) : KI kc σ' := by
  unfold g_X1_comparison_b70 at hf
  refine f_mob hf (fun r111 σ112 h1 hf => ?_)
  have hv := k_X8_next h1 hv
  refine f_mob hf (fun r113 σ114 h1 hf => ?_)
  have hv := hrec _ _ _ _ _ _ h1 hv
  refine f_gp hf (fun hg115 hf => ?_)
  refine f_mob hf (fun r116 σ117 h1 hf => ?_)
  have hv := KI.of (fun q j hq => f_X5_emit h1 q j (by unfold T_X5_emit; rcases hg115 with hz | hz <;> rw [hz] <;> omega)) hv
  cases hf
  exact hv
theorem k_X1_comparison {kc : Bool} {F : Nat}  {rc : Nat → Int → Int → mMem → mRs} (hrec : ∀ (t : Nat) (a b : Int) (σ : mMem) (r : Int) (σ' : mMem), rc t a b σ = some (r, σ') → KI kc σ → KI kc σ') {r : Int} {σ' : mMem} {x1 : Int} {σ : mMem} (hf : g_X1_comparison rc F x1 σ = some (r, σ')) (hv : KI kc σ) : KI kc σ' := by
  unfold g_X1_comparison at hf
  refine f_mob hf (fun r1 σ2 h1 hf => ?_)
  have hv := hrec _ _ _ _ _ _ h1 hv
  refine f_mob hf (fun r3 σ4 h1 hf => ?_)
  have hv := KI.of (fun q j hq => f_X8_isMark h1 q j (by unfold T_X8_isMark; exact id)) hv
  refine f_ite hf (fun hf => ?_) (fun hf => ?_)
  · refine f_mob hf (fun r5 σ6 h1 hf => ?_)
    have hv := KI.of (fun q j hq => f_X8_isMark h1 q j (by unfold T_X8_isMark; exact id)) hv
    refine f_ite hf (fun hf => ?_) (fun hf => ?_)
    · refine f_mob hf (fun r7 σ8 h1 hf => ?_)
      have hv := KI.of (fun q j hq => f_X8_isMark h1 q j (by unfold T_X8_isMark; exact id)) hv
      refine f_ite hf (fun hf => ?_) (fun hf => ?_)
      · refine f_mob hf (fun r9 σ10 h1 hf => ?_)
        have hv := k_X8_refuseHere (by decide) h1 hv
        cases hf
        exact hv
      · exact k_X1_comparison_b70 hrec hf hv
    · exact k_X1_comparison_b70 hrec hf hv
  · exact k_X1_comparison_b70 hrec hf hv
theorem k_X1_sum_b83 {kc : Bool} {F : Nat}  {rc : Nat → Int → Int → mMem → mRs} (hrec : ∀ (t : Nat) (a b : Int) (σ : mMem) (r : Int) (σ' : mMem), rc t a b σ = some (r, σ') → KI kc σ → KI kc σ') {r : Int} {σ' : mMem}   {σ : mMem} (hf : g_X1_sum_b83 rc F  σ = some (r, σ')) (hv : KI kc σ) : KI kc σ' := by
  unfold g_X1_sum_b83 at hf
  cases hf
  exact hv
theorem k_X1_sum_b55 {kc : Bool} {F : Nat}  {rc : Nat → Int → Int → mMem → mRs} (hrec : ∀ (t : Nat) (a b : Int) (σ : mMem) (r : Int) (σ' : mMem), rc t a b σ = some (r, σ') → KI kc σ → KI kc σ') {r : Int} {σ' : mMem} {k7 : Int → Int → mMem → mRs} (hk7 : ∀ (x1 x2 : Int) (σ : mMem), k7 x1 x2 σ = some (r, σ') → KI kc σ → KI kc σ') {x1 x2 t0 : Int} {σ : mMem} (hf : g_X1_sum_b55 rc F k7 x1 x2 t0 σ = some (r, σ')) (hv : KI kc σ) : KI kc σ' := by
  unfold g_X1_sum_b55 at hf
  refine f_mob hf (fun r409 σ410 h1 hf => ?_)
  have hv := k_X8_next h1 hv
  refine f_mob hf (fun r411 σ412 h1 hf => ?_)
  have hv := hrec _ _ _ _ _ _ h1 hv
  refine f_gp hf (fun hg413 hf => ?_)
  refine f_mob hf (fun r414 σ415 h1 hf => ?_)
  have hv := KI.of (fun q j hq => f_X5_emit h1 q j (by unfold T_X5_emit; rcases hg413 with hz | hz <;> rw [hz] <;> omega)) hv
  exact hk7 _ _ _ hf hv
theorem k_X1_sum_b38 {kc : Bool} {F : Nat}  {rc : Nat → Int → Int → mMem → mRs} (hrec : ∀ (t : Nat) (a b : Int) (σ : mMem) (r : Int) (σ' : mMem), rc t a b σ = some (r, σ') → KI kc σ → KI kc σ') {r : Int} {σ' : mMem} {k7 : Int → Int → mMem → mRs} (hk7 : ∀ (x1 x2 : Int) (σ : mMem), k7 x1 x2 σ = some (r, σ') → KI kc σ → KI kc σ') {x1 x2 : Int} {σ : mMem} (hf : g_X1_sum_b38 rc F k7 x1 x2 σ = some (r, σ')) (hv : KI kc σ) : KI kc σ' := by
  unfold g_X1_sum_b38 at hf
  refine f_mob hf (fun r307 σ308 h1 hf => ?_)
  have hv := KI.of (fun q j hq => f_X8_isMark h1 q j (by unfold T_X8_isMark; exact id)) hv
  refine f_ite hf (fun hf => ?_) (fun hf => ?_)
  · exact k_X1_sum_b55 hrec hk7 hf hv
  · exact k_X1_sum_b55 hrec hk7 hf hv
theorem k_X1_sum_h7 {kc : Bool} {F : Nat}  {rc : Nat → Int → Int → mMem → mRs} (hrec : ∀ (t : Nat) (a b : Int) (σ : mMem) (r : Int) (σ' : mMem), rc t a b σ = some (r, σ') → KI kc σ → KI kc σ') {r : Int} {σ' : mMem}   (n : Nat) : ∀ {x1 x2 : Int} {σ : mMem} (_ : g_X1_sum_h7 rc F n x1 x2 σ = some (r, σ')), KI kc σ → KI kc σ' := by
  induction n with
  | zero =>
    intro x1 x2 σ hf hv
    unfold g_X1_sum_h7 at hf
    cases hf
  | succ n ih =>
    have hk7 : ∀ (x1 x2 : Int) (σ : mMem), g_X1_sum_h7 rc F n x1 x2 σ = some (r, σ') → KI kc σ → KI kc σ' := fun x1 x2 σ hf => ih hf
    intro x1 x2 σ hf hv
    unfold g_X1_sum_h7 at hf
    refine f_ite hf (fun hf => ?_) (fun hf => ?_)
    · exact k_X1_sum_b83 hrec hf hv
    · refine f_mob hf (fun r103 σ104 h1 hf => ?_)
      have hv := KI.of (fun q j hq => f_X8_isMark h1 q j (by unfold T_X8_isMark; exact id)) hv
      refine f_ite hf (fun hf => ?_) (fun hf => ?_)
      · exact k_X1_sum_b38 hrec hk7 hf hv
      · refine f_mob hf (fun r105 σ106 h1 hf => ?_)
        have hv := KI.of (fun q j hq => f_X8_isMark h1 q j (by unfold T_X8_isMark; exact id)) hv
        refine f_ite hf (fun hf => ?_) (fun hf => ?_)
        · exact k_X1_sum_b83 hrec hf hv
        · exact k_X1_sum_b38 hrec hk7 hf hv
theorem k_X1_sum {kc : Bool} {F : Nat}  {rc : Nat → Int → Int → mMem → mRs} (hrec : ∀ (t : Nat) (a b : Int) (σ : mMem) (r : Int) (σ' : mMem), rc t a b σ = some (r, σ') → KI kc σ → KI kc σ') {r : Int} {σ' : mMem} {x1 : Int} {σ : mMem} (hf : g_X1_sum rc F x1 σ = some (r, σ')) (hv : KI kc σ) : KI kc σ' := by
  unfold g_X1_sum at hf
  refine f_mob hf (fun r1 σ2 h1 hf => ?_)
  have hv := hrec _ _ _ _ _ _ h1 hv
  exact k_X1_sum_h7 hrec _ hf hv
theorem k_X1_product_b56 {kc : Bool} {F : Nat}  {rc : Nat → Int → Int → mMem → mRs} (hrec : ∀ (t : Nat) (a b : Int) (σ : mMem) (r : Int) (σ' : mMem), rc t a b σ = some (r, σ') → KI kc σ → KI kc σ') {r : Int} {σ' : mMem}   {σ : mMem} (hf : g_X1_product_b56 rc F  σ = some (r, σ')) (hv : KI kc σ) : KI kc σ' := by
  unfold g_X1_product_b56 at hf
  cases hf
  exact hv
theorem k_X1_product_h12 {kc : Bool} {F : Nat}  {rc : Nat → Int → Int → mMem → mRs} (hrec : ∀ (t : Nat) (a b : Int) (σ : mMem) (r : Int) (σ' : mMem), rc t a b σ = some (r, σ') → KI kc σ → KI kc σ') {r : Int} {σ' : mMem}   (n : Nat) : ∀ {x1 x2 x3 : Int} {σ : mMem} (_ : g_X1_product_h12 rc F n x1 x2 x3 σ = some (r, σ')), KI kc σ → KI kc σ' := by
  induction n with
  | zero =>
    intro x1 x2 x3 σ hf hv
    unfold g_X1_product_h12 at hf
    cases hf
  | succ n ih =>
    have hk12 : ∀ (x1 x2 x3 : Int) (σ : mMem), g_X1_product_h12 rc F n x1 x2 x3 σ = some (r, σ') → KI kc σ → KI kc σ' := fun x1 x2 x3 σ hf => ih hf
    intro x1 x2 x3 σ hf hv
    unfold g_X1_product_h12 at hf
    refine f_ite hf (fun hf => ?_) (fun hf => ?_)
    · exact k_X1_product_b56 hrec hf hv
    · refine f_ite hf (fun hf => ?_) (fun hf => ?_)
      · exact k_X1_product_b56 hrec hf hv
      · refine f_mob hf (fun r105 σ106 h1 hf => ?_)
        have hv := k_X8_next h1 hv
        refine f_mob hf (fun r107 σ108 h1 hf => ?_)
        have hv := hrec _ _ _ _ _ _ h1 hv
        refine f_gp hf (fun hg109 hf => ?_)
        refine f_mob hf (fun r110 σ111 h1 hf => ?_)
        have hv := KI.of (fun q j hq => f_X5_emit h1 q j (by unfold T_X5_emit; rcases hg109 with hz | hz <;> rw [hz] <;> omega)) hv
        refine f_mob hf (fun r112 σ113 h1 hf => ?_)
        have hv := KI.of (fun q j hq => f_X1_productSign h1 q j (by unfold T_X1_productSign; exact id)) hv
        exact hk12 _ _ _ _ hf hv
theorem k_X1_product {kc : Bool} {F : Nat}  {rc : Nat → Int → Int → mMem → mRs} (hrec : ∀ (t : Nat) (a b : Int) (σ : mMem) (r : Int) (σ' : mMem), rc t a b σ = some (r, σ') → KI kc σ → KI kc σ') {r : Int} {σ' : mMem} {x1 : Int} {σ : mMem} (hf : g_X1_product rc F x1 σ = some (r, σ')) (hv : KI kc σ) : KI kc σ' := by
  unfold g_X1_product at hf
  refine f_mob hf (fun r1 σ2 h1 hf => ?_)
  have hv := hrec _ _ _ _ _ _ h1 hv
  refine f_mob hf (fun r3 σ4 h1 hf => ?_)
  have hv := KI.of (fun q j hq => f_X1_productSign h1 q j (by unfold T_X1_productSign; exact id)) hv
  exact k_X1_product_h12 hrec _ hf hv
theorem k_X1_part_b145 {kc : Bool} {F : Nat}  {rc : Nat → Int → Int → mMem → mRs} (hrec : ∀ (t : Nat) (a b : Int) (σ : mMem) (r : Int) (σ' : mMem), rc t a b σ = some (r, σ') → KI kc σ → KI kc σ') {r : Int} {σ' : mMem}   {σ : mMem} (hf : g_X1_part_b145 rc F  σ = some (r, σ')) (hv : KI kc σ) : KI kc σ' := by
  unfold g_X1_part_b145 at hf
  cases hf
  exact hv
theorem k_X1_part {kc : Bool} {F : Nat}  {rc : Nat → Int → Int → mMem → mRs} (hrec : ∀ (t : Nat) (a b : Int) (σ : mMem) (r : Int) (σ' : mMem), rc t a b σ = some (r, σ') → KI kc σ → KI kc σ') {r : Int} {σ' : mMem} {x1 : Int} {σ : mMem} (hf : g_X1_part rc F x1 σ = some (r, σ')) (hv : KI kc σ) : KI kc σ' := by
  unfold g_X1_part at hf
  refine f_ite hf (fun hf => ?_) (fun hf => ?_)
  · refine f_mob hf (fun r1 σ2 h1 hf => ?_)
    have hv := KI.of (fun q j hq => f_X8_isMark h1 q j (by unfold T_X8_isMark; exact id)) hv
    refine f_ite hf (fun hf => ?_) (fun hf => ?_)
    · refine f_mob hf (fun r3 σ4 h1 hf => ?_)
      have hv := KI.of (fun q j hq => f_X8_isWord h1 q j (by unfold T_X8_isWord; exact id)) hv
      refine f_ite hf (fun hf => ?_) (fun hf => ?_)
      · refine f_mob hf (fun r5 σ6 h1 hf => ?_)
        have hv := KI.of (fun q j hq => f_X8_isWord h1 q j (by unfold T_X8_isWord; exact id)) hv
        refine f_ite hf (fun hf => ?_) (fun hf => ?_)
        · refine f_mob hf (fun r7 σ8 h1 hf => ?_)
          have hv := KI.of (fun q j hq => f_X8_isWord h1 q j (by unfold T_X8_isWord; exact id)) hv
          refine f_ite hf (fun hf => ?_) (fun hf => ?_)
          · refine f_mob hf (fun r9 σ10 h1 hf => ?_)
            have hv := k_X1_known h1 hv
            exact k_X1_part_b145 hrec hf hv
          · refine f_mob hf (fun r11 σ12 h1 hf => ?_)
            have hv := hrec _ _ _ _ _ _ h1 hv
            exact k_X1_part_b145 hrec hf hv
        · refine f_mob hf (fun r13 σ14 h1 hf => ?_)
          have hv := hrec _ _ _ _ _ _ h1 hv
          exact k_X1_part_b145 hrec hf hv
      · refine f_mob hf (fun r15 σ16 h1 hf => ?_)
        have hv := hrec _ _ _ _ _ _ h1 hv
        exact k_X1_part_b145 hrec hf hv
    · refine f_mob hf (fun r17 σ18 h1 hf => ?_)
      have hv := k_X1_passOpening h1 hv
      refine f_ite hf (fun hf => ?_) (fun hf => ?_)
      · exact k_X1_part_b145 hrec hf hv
      · refine f_mob hf (fun r19 σ20 h1 hf => ?_)
        have hv := hrec _ _ _ _ _ _ h1 hv
        refine f_mob hf (fun r21 σ22 h1 hf => ?_)
        have hv := k_X8_takeMark h1 hv
        exact k_X1_part_b145 hrec hf hv
  · refine f_gp hf (fun hg23 hf => ?_)
    refine f_mob hf (fun r24 σ25 h1 hf => ?_)
    have hv := KI.of (fun q j hq => f_X5_emit h1 q j (by unfold T_X5_emit; rcases hg23 with hz | hz <;> rw [hz] <;> omega)) hv
    refine f_mob hf (fun r26 σ27 h1 hf => ?_)
    have hv := k_X8_next h1 hv
    exact k_X1_part_b145 hrec hf hv
theorem k_X1_choice_b59 {kc : Bool} {F : Nat}  {rc : Nat → Int → Int → mMem → mRs} (hrec : ∀ (t : Nat) (a b : Int) (σ : mMem) (r : Int) (σ' : mMem), rc t a b σ = some (r, σ') → KI kc σ → KI kc σ') {r : Int} {σ' : mMem}   {x1 x2 : Int} {σ : mMem} (hf : g_X1_choice_b59 rc F x1 x2 σ = some (r, σ')) (hv : KI kc σ) : KI kc σ' := by
  unfold g_X1_choice_b59 at hf
  refine f_mob hf (fun r113 σ114 h1 hf => ?_)
  have hv := hrec _ _ _ _ _ _ h1 hv
  refine f_mob hf (fun r115 σ116 h1 hf => ?_)
  have hv := k_X8_takeMark h1 hv
  refine f_mob hf (fun r117 σ118 h1 hf => ?_)
  have hv := hrec _ _ _ _ _ _ h1 hv
  refine f_mob hf (fun r119 σ120 h1 hf => ?_)
  have hv := k_X8_takeMark h1 hv
  refine f_gp hf (fun hg121 hf => ?_)
  refine f_mob hf (fun r122 σ123 h1 hf => ?_)
  have hv := KI.of (fun q j hq => f_X5_emit h1 q j (by unfold T_X5_emit; rcases hg121 with hz | hz <;> rw [hz] <;> omega)) hv
  cases hf
  exact hv
theorem k_X1_choice {kc : Bool} {F : Nat}  {rc : Nat → Int → Int → mMem → mRs} (hrec : ∀ (t : Nat) (a b : Int) (σ : mMem) (r : Int) (σ' : mMem), rc t a b σ = some (r, σ') → KI kc σ → KI kc σ') {r : Int} {σ' : mMem} {x1 x2 : Int} {σ : mMem} (hf : g_X1_choice rc F x1 x2 σ = some (r, σ')) (hv : KI kc σ) : KI kc σ' := by
  unfold g_X1_choice at hf
  refine f_mob hf (fun r1 σ2 h1 hf => ?_)
  have hv := k_X8_next h1 hv
  refine f_mob hf (fun r3 σ4 h1 hf => ?_)
  have hv := KI.of (fun q j hq => f_X8_isMark h1 q j (by unfold T_X8_isMark; exact id)) hv
  refine f_ite hf (fun hf => ?_) (fun hf => ?_)
  · refine f_mob hf (fun r5 σ6 h1 hf => ?_)
    have hv := k_X1_passOpening h1 hv
    refine f_ite hf (fun hf => ?_) (fun hf => ?_)
    · refine f_ite hf (fun hf => ?_) (fun hf => ?_)
      · exact k_X1_choice_b59 hrec hf hv
      · refine f_mob hf (fun r7 σ8 h1 hf => ?_)
        have hv := hrec _ _ _ _ _ _ h1 hv
        refine f_mob hf (fun r9 σ10 h1 hf => ?_)
        have hv := k_X8_takeMark h1 hv
        exact k_X1_choice_b59 hrec hf hv
    · cases hf
      exact hv
  · refine f_mob hf (fun r11 σ12 h1 hf => ?_)
    have hv := k_X8_refuseHere (by decide) h1 hv
    cases hf
    exact hv
theorem k_X1_rec {kc : Bool} {F : Nat} : ∀ (d t : Nat) (a b : Int) (σ : mMem) (r : Int) (σ' : mMem), g_X1_rec F d t a b σ = some (r, σ') → KI kc σ → KI kc σ'
  | 0, _, _, _, _, _, _, h, _ => by cases h
  | d + 1, t, a, b, σ, r, σ', h, hv => by
    unfold g_X1_rec at h
    refine f_ite h (fun h => k_X1_test (k_X1_rec d) h hv) (fun h => ?_)
    refine f_ite h (fun h => k_X1_both (k_X1_rec d) h hv) (fun h => ?_)
    refine f_ite h (fun h => k_X1_fact (k_X1_rec d) h hv) (fun h => ?_)
    refine f_ite h (fun h => k_X1_comparison (k_X1_rec d) h hv) (fun h => ?_)
    refine f_ite h (fun h => k_X1_sum (k_X1_rec d) h hv) (fun h => ?_)
    refine f_ite h (fun h => k_X1_product (k_X1_rec d) h hv) (fun h => ?_)
    refine f_ite h (fun h => k_X1_part (k_X1_rec d) h hv) (fun h => ?_)
    refine f_ite h (fun h => k_X1_choice (k_X1_rec d) h hv) (fun h => ?_)
    cases h
theorem k_X1_readSteers {kc : Bool} {F : Nat} {p1 : Nat} {r : Int} {σ' : mMem} {σ : mMem} (hf : g_X1_readSteers F p1 σ = some (r, σ')) (hv : KI kc σ) : KI kc σ' := by
  unfold g_X1_readSteers at hf
  refine fk_mem hf (KI.up hv (by omega)) (fun σ1 hv hf => ?_)
  refine f_gd hf (fun hf => ?_)
  refine fk_mem hf (KI.up hv (by omega)) (fun σ2 hv hf => ?_)
  refine f_mob hf (fun r3 σ4 h1 hf => ?_)
  have hv := k_X8_next h1 hv
  refine f_gp hf (fun hg5 hf => ?_)
  refine f_gp hf (fun hg6 hf => ?_)
  refine fk_mem hf (KI.up hv (by rcases hg6 with hz | hz <;> rw [hz] <;> (try simp only [Int.toNat_natCast, Int.reduceToNat]) <;> omega)) (fun σ7 hv hf => ?_)
  refine f_mob hf (fun r8 σ9 h1 hf => ?_)
  have hv := k_X1_rec _ _ _ _ _ _ _ h1 hv
  refine f_gp hf (fun hg10 hf => ?_)
  refine f_gp hf (fun hg11 hf => ?_)
  refine fk_mem hf (KI.up hv (by rcases hg11 with hz | hz <;> rw [hz] <;> (try simp only [Int.toNat_natCast, Int.reduceToNat]) <;> omega)) (fun σ12 hv hf => ?_)
  cases hf
  exact hv
theorem k_X1_readGoes {kc : Bool} {F : Nat} {p1 : Nat} {r : Int} {σ' : mMem} {σ : mMem} (hf : g_X1_readGoes F p1 σ = some (r, σ')) (hv : KI kc σ) : KI kc σ' := by
  unfold g_X1_readGoes at hf
  refine fk_mem hf (KI.up hv (by omega)) (fun σ1 hv hf => ?_)
  refine f_gd hf (fun hf => ?_)
  refine fk_mem hf (KI.up hv (by omega)) (fun σ2 hv hf => ?_)
  refine f_mob hf (fun r3 σ4 h1 hf => ?_)
  have hv := k_X8_next h1 hv
  refine f_gp hf (fun hg5 hf => ?_)
  refine f_gp hf (fun hg6 hf => ?_)
  refine fk_mem hf (KI.up hv (by rcases hg6 with hz | hz <;> rw [hz] <;> (try simp only [Int.toNat_natCast, Int.reduceToNat]) <;> omega)) (fun σ7 hv hf => ?_)
  refine f_mob hf (fun r8 σ9 h1 hf => ?_)
  have hv := k_X1_rec _ _ _ _ _ _ _ h1 hv
  refine f_gp hf (fun hg10 hf => ?_)
  refine f_gp hf (fun hg11 hf => ?_)
  refine fk_mem hf (KI.up hv (by rcases hg11 with hz | hz <;> rw [hz] <;> (try simp only [Int.toNat_natCast, Int.reduceToNat]) <;> omega)) (fun σ12 hv hf => ?_)
  cases hf
  exact hv
theorem k_X6_takeBoxName_b50 {kc : Bool} {F : Nat}  {r : Int} {σ' : mMem}   {x1 : Int} {σ : mMem} (hf : g_X6_takeBoxName_b50 F x1 σ = some (r, σ')) (hv : KI kc σ) : KI kc σ' := by
  unfold g_X6_takeBoxName_b50 at hf
  refine f_mob hf (fun r108 σ109 h1 hf => ?_)
  have hv := k_X8_next h1 hv
  cases hf
  exact hv
theorem k_X6_takeBoxName {kc : Bool} {F : Nat}  {r : Int} {σ' : mMem} {σ : mMem} (hf : g_X6_takeBoxName F σ = some (r, σ')) (hv : KI kc σ) : KI kc σ' := by
  unfold g_X6_takeBoxName at hf
  refine f_gp hf (fun hg1 hf => ?_)
  refine f_mob hf (fun r2 σ3 h1 hf => ?_)
  have hv := KI.of (fun q j hq => f_X5_boxNamed h1 q j (by unfold T_X5_boxNamed; exact id)) hv
  refine f_ite hf (fun hf => ?_) (fun hf => ?_)
  · refine f_ite hf (fun hf => ?_) (fun hf => ?_)
    · exact k_X6_takeBoxName_b50 hf hv
    · refine f_mob hf (fun r4 σ5 h1 hf => ?_)
      have hv := k_X8_refuseHere (by decide) h1 hv
      exact k_X6_takeBoxName_b50 hf hv
  · refine f_mob hf (fun r6 σ7 h1 hf => ?_)
    have hv := k_X8_refuseHere (by decide) h1 hv
    exact k_X6_takeBoxName_b50 hf hv
theorem k_X8_takeNumber_b37 {kc : Bool} {F : Nat}  {r : Int} {σ' : mMem}   {σ : mMem} (hf : g_X8_takeNumber_b37 F  σ = some (r, σ')) (hv : KI kc σ) : KI kc σ' := by
  unfold g_X8_takeNumber_b37 at hf
  refine f_let hf (fun y103 hf => ?_)
  refine f_mob hf (fun r104 σ105 h1 hf => ?_)
  have hv := k_X8_next h1 hv
  cases hf
  exact hv
theorem k_X8_takeNumber_b32 {kc : Bool} {F : Nat}  {r : Int} {σ' : mMem}   {σ : mMem} (hf : g_X8_takeNumber_b32 F  σ = some (r, σ')) (hv : KI kc σ) : KI kc σ' := by
  unfold g_X8_takeNumber_b32 at hf
  refine f_mob hf (fun r206 σ207 h1 hf => ?_)
  have hv := k_X8_refuseHere (by decide) h1 hv
  exact k_X8_takeNumber_b37 hf hv
theorem k_X8_takeNumber {kc : Bool} {F : Nat}  {r : Int} {σ' : mMem} {x1 x2 : Int} {σ : mMem} (hf : g_X8_takeNumber F x1 x2 σ = some (r, σ')) (hv : KI kc σ) : KI kc σ' := by
  unfold g_X8_takeNumber at hf
  refine f_ite hf (fun hf => ?_) (fun hf => ?_)
  · refine f_ite hf (fun hf => ?_) (fun hf => ?_)
    · exact k_X8_takeNumber_b32 hf hv
    · refine f_ite hf (fun hf => ?_) (fun hf => ?_)
      · exact k_X8_takeNumber_b37 hf hv
      · exact k_X8_takeNumber_b32 hf hv
  · refine f_mob hf (fun r1 σ2 h1 hf => ?_)
    have hv := k_X8_refuseHere (by decide) h1 hv
    exact k_X8_takeNumber_b37 hf hv
theorem k_X6_readBias {kc : Bool} {F : Nat}  {r : Int} {σ' : mMem} {σ : mMem} (hf : g_X6_readBias F σ = some (r, σ')) (hv : KI kc σ) : KI kc σ' := by
  unfold g_X6_readBias at hf
  refine f_mob hf (fun r1 σ2 h1 hf => ?_)
  have hv := k_X8_next h1 hv
  refine f_mob hf (fun r3 σ4 h1 hf => ?_)
  have hv := k_X6_takeBoxName h1 hv
  refine f_gp hf (fun hg5 hf => ?_)
  refine f_mob hf (fun r6 σ7 h1 hf => ?_)
  have hv := k_X8_takeNumber h1 hv
  refine f_mob hf (fun r8 σ9 h1 hf => ?_)
  have hv := KI.of (fun q j hq => f_X5_setStart h1 q j (by unfold T_X5_setStart; rcases hg5 with hz | hz <;> rw [hz] <;> omega)) hv
  cases hf
  exact hv
theorem k_X6_takeNewName_b48 {kc : Bool} {F : Nat}  {r : Int} {σ' : mMem}   {σ : mMem} (hf : g_X6_takeNewName_b48 F  σ = some (r, σ')) (hv : KI kc σ) : KI kc σ' := by
  unfold g_X6_takeNewName_b48 at hf
  refine f_let hf (fun y108 hf => ?_)
  refine f_mob hf (fun r109 σ110 h1 hf => ?_)
  have hv := k_X8_next h1 hv
  cases hf
  exact hv
theorem k_X6_takeNewName {kc : Bool} {F : Nat}  {r : Int} {σ' : mMem} {σ : mMem} (hf : g_X6_takeNewName F σ = some (r, σ')) (hv : KI kc σ) : KI kc σ' := by
  unfold g_X6_takeNewName at hf
  refine f_ite hf (fun hf => ?_) (fun hf => ?_)
  · refine f_gp hf (fun hg1 hf => ?_)
    refine f_mob hf (fun r2 σ3 h1 hf => ?_)
    have hv := KI.of (fun q j hq => f_X5_boxNamed h1 q j (by unfold T_X5_boxNamed; exact id)) hv
    refine f_ite hf (fun hf => ?_) (fun hf => ?_)
    · exact k_X6_takeNewName_b48 hf hv
    · refine f_mob hf (fun r4 σ5 h1 hf => ?_)
      have hv := k_X8_refuseHere (by decide) h1 hv
      exact k_X6_takeNewName_b48 hf hv
  · refine f_mob hf (fun r6 σ7 h1 hf => ?_)
    have hv := k_X8_refuseHere (by decide) h1 hv
    exact k_X6_takeNewName_b48 hf hv
theorem k_X8_takeWord_b13 {kc : Bool} {F : Nat}  {r : Int} {σ' : mMem}   {σ : mMem} (hf : g_X8_takeWord_b13 F  σ = some (r, σ')) (hv : KI kc σ) : KI kc σ' := by
  unfold g_X8_takeWord_b13 at hf
  refine f_mob hf (fun r105 σ106 h1 hf => ?_)
  have hv := k_X8_next h1 hv
  cases hf
  exact hv
theorem k_X8_takeWord {kc : Bool} {F : Nat}  {r : Int} {σ' : mMem} {x1 : Int} {σ : mMem} (hf : g_X8_takeWord F x1 σ = some (r, σ')) (hv : KI kc σ) : KI kc σ' := by
  unfold g_X8_takeWord at hf
  refine f_mob hf (fun r1 σ2 h1 hf => ?_)
  have hv := KI.of (fun q j hq => f_X8_isWord h1 q j (by unfold T_X8_isWord; exact id)) hv
  refine f_ite hf (fun hf => ?_) (fun hf => ?_)
  · exact k_X8_takeWord_b13 hf hv
  · refine f_mob hf (fun r3 σ4 h1 hf => ?_)
    have hv := k_X8_refuseHere (by decide) h1 hv
    exact k_X8_takeWord_b13 hf hv
theorem k_X6_readBox_b76 {kc : Bool} {F : Nat}  {r : Int} {σ' : mMem}   {x1 x2 : Int} {σ : mMem} (hf : g_X6_readBox_b76 F x1 x2 σ = some (r, σ')) (hv : KI kc σ) : KI kc σ' := by
  unfold g_X6_readBox_b76 at hf
  refine f_gp hf (fun hg115 hf => ?_)
  refine f_mob hf (fun r116 σ117 h1 hf => ?_)
  have hv := k_X8_takeNumber h1 hv
  refine f_mob hf (fun r118 σ119 h1 hf => ?_)
  have hv := k_X8_takeWord h1 hv
  refine f_gp hf (fun hg120 hf => ?_)
  refine f_mob hf (fun r121 σ122 h1 hf => ?_)
  have hv := k_X8_takeNumber h1 hv
  refine f_mob hf (fun r123 σ124 h1 hf => ?_)
  have hv := KI.of (fun q j hq => f_X5_addBox h1 q j (by unfold T_X5_addBox; rcases hg120 with hz | hz <;> rw [hz] <;> omega)) hv
  cases hf
  exact hv
theorem k_X6_readBox {kc : Bool} {F : Nat}  {r : Int} {σ' : mMem} {σ : mMem} (hf : g_X6_readBox F σ = some (r, σ')) (hv : KI kc σ) : KI kc σ' := by
  unfold g_X6_readBox at hf
  refine f_mob hf (fun r1 σ2 h1 hf => ?_)
  have hv := k_X8_next h1 hv
  refine f_mob hf (fun r3 σ4 h1 hf => ?_)
  have hv := k_X6_takeNewName h1 hv
  refine f_mob hf (fun r5 σ6 h1 hf => ?_)
  have hv := k_X8_takeWord h1 hv
  refine f_gp hf (fun hg7 hf => ?_)
  refine f_mob hf (fun r8 σ9 h1 hf => ?_)
  have hv := k_X8_takeNumber h1 hv
  refine f_ite hf (fun hf => ?_) (fun hf => ?_)
  · exact k_X6_readBox_b76 hf hv
  · refine f_gp hf (fun hg10 hf => ?_)
    refine f_mob hf (fun r11 σ12 h1 hf => ?_)
    have hv := KI.of (fun q j hq => f_X5_boxStartingOn h1 q j (by unfold T_X5_boxStartingOn; exact id)) hv
    refine f_ite hf (fun hf => ?_) (fun hf => ?_)
    · exact k_X6_readBox_b76 hf hv
    · refine f_mob hf (fun r13 σ14 h1 hf => ?_)
      have hv := k_X8_refuseHere (by decide) h1 hv
      exact k_X6_readBox_b76 hf hv
theorem k_X6_readEyes {kc : Bool} {F : Nat}  {r : Int} {σ' : mMem} {σ : mMem} (hf : g_X6_readEyes F σ = some (r, σ')) (hv : KI kc σ) : KI kc σ' := by
  unfold g_X6_readEyes at hf
  refine f_mob hf (fun r1 σ2 h1 hf => ?_)
  have hv := k_X8_next h1 hv
  refine f_mob hf (fun r3 σ4 h1 hf => ?_)
  have hv := k_X6_takeBoxName h1 hv
  refine f_mob hf (fun r5 σ6 h1 hf => ?_)
  have hv := k_X8_takeWord h1 hv
  refine f_gp hf (fun hg7 hf => ?_)
  refine f_mob hf (fun r8 σ9 h1 hf => ?_)
  have hv := k_X8_takeNumber h1 hv
  refine f_mob hf (fun r10 σ11 h1 hf => ?_)
  have hv := KI.of (fun q j hq => f_X5_setStart h1 q j (by unfold T_X5_setStart; rcases hg7 with hz | hz <;> rw [hz] <;> omega)) hv
  refine f_mob hf (fun r12 σ13 h1 hf => ?_)
  have hv := k_X8_takeWord h1 hv
  refine f_gp hf (fun hg14 hf => ?_)
  refine f_mob hf (fun r15 σ16 h1 hf => ?_)
  have hv := k_X8_takeNumber h1 hv
  refine f_mob hf (fun r17 σ18 h1 hf => ?_)
  have hv := KI.of (fun q j hq => f_X5_setStart h1 q j (by unfold T_X5_setStart; rcases hg14 with hz | hz <;> rw [hz] <;> omega)) hv
  cases hf
  exact hv
theorem k_X6_readFloor {kc : Bool} {F : Nat}  {r : Int} {σ' : mMem} {σ : mMem} (hf : g_X6_readFloor F σ = some (r, σ')) (hv : KI kc σ) : KI kc σ' := by
  unfold g_X6_readFloor at hf
  refine f_mob hf (fun r1 σ2 h1 hf => ?_)
  have hv := k_X8_next h1 hv
  refine f_gp hf (fun hg3 hf => ?_)
  refine f_mob hf (fun r4 σ5 h1 hf => ?_)
  have hv := k_X8_takeNumber h1 hv
  refine fk_mem hf (KI.up hv (by rcases hg3 with hz | hz <;> rw [hz] <;> (try simp only [Int.toNat_natCast, Int.reduceToNat]) <;> omega)) (fun σ6 hv hf => ?_)
  refine f_mob hf (fun r7 σ8 h1 hf => ?_)
  have hv := k_X8_takeWord h1 hv
  refine f_gp hf (fun hg9 hf => ?_)
  refine f_mob hf (fun r10 σ11 h1 hf => ?_)
  have hv := k_X8_takeNumber h1 hv
  refine fk_mem hf (KI.up hv (by rcases hg9 with hz | hz <;> rw [hz] <;> (try simp only [Int.toNat_natCast, Int.reduceToNat]) <;> omega)) (fun σ12 hv hf => ?_)
  cases hf
  exact hv
theorem k_X6_readGrey {kc : Bool} {F : Nat}  {r : Int} {σ' : mMem} {σ : mMem} (hf : g_X6_readGrey F σ = some (r, σ')) (hv : KI kc σ) : KI kc σ' := by
  unfold g_X6_readGrey at hf
  refine f_mob hf (fun r1 σ2 h1 hf => ?_)
  have hv := k_X8_next h1 hv
  refine f_gp hf (fun hg3 hf => ?_)
  refine f_mob hf (fun r4 σ5 h1 hf => ?_)
  have hv := k_X8_takeNumber h1 hv
  refine f_gp hf (fun hg6 hf => ?_)
  refine f_mob hf (fun r7 σ8 h1 hf => ?_)
  have hv := k_X8_takeNumber h1 hv
  refine f_gp hf (fun hg9 hf => ?_)
  refine f_mob hf (fun r10 σ11 h1 hf => ?_)
  have hv := k_X8_takeNumber h1 hv
  refine f_mob hf (fun r12 σ13 h1 hf => ?_)
  have hv := KI.of (fun q j hq => f_X5_setGrey h1 q j (by unfold T_X5_setGrey; rcases hg9 with hz | hz <;> rw [hz] <;> omega)) hv
  cases hf
  exact hv
theorem k_X6_readSetting_b108 {kc : Bool} {F : Nat}  {r : Int} {σ' : mMem}   {σ : mMem} (hf : g_X6_readSetting_b108 F  σ = some (r, σ')) (hv : KI kc σ) : KI kc σ' := by
  unfold g_X6_readSetting_b108 at hf
  cases hf
  exact hv
theorem k_X6_readSetting {kc : Bool} {F : Nat}  {r : Int} {σ' : mMem} {x1 : Int} {σ : mMem} (hf : g_X6_readSetting F x1 σ = some (r, σ')) (hv : KI kc σ) : KI kc σ' := by
  unfold g_X6_readSetting at hf
  refine f_ite hf (fun hf => ?_) (fun hf => ?_)
  · refine f_ite hf (fun hf => ?_) (fun hf => ?_)
    · refine f_ite hf (fun hf => ?_) (fun hf => ?_)
      · refine f_mob hf (fun r1 σ2 h1 hf => ?_)
        have hv := k_X8_refuseHere (by decide) h1 hv
        exact k_X6_readSetting_b108 hf hv
      · refine f_mob hf (fun r3 σ4 h1 hf => ?_)
        have hv := k_X8_next h1 hv
        refine f_gp hf (fun hg5 hf => ?_)
        refine f_mob hf (fun r6 σ7 h1 hf => ?_)
        have hv := k_X8_takeNumber h1 hv
        refine fk_mem hf (KI.up hv (by rcases hg5 with hz | hz <;> rw [hz] <;> (try simp only [Int.toNat_natCast, Int.reduceToNat]) <;> omega)) (fun σ8 hv hf => ?_)
        exact k_X6_readSetting_b108 hf hv
    · refine f_mob hf (fun r9 σ10 h1 hf => ?_)
      have hv := k_X8_next h1 hv
      refine f_gp hf (fun hg11 hf => ?_)
      refine f_mob hf (fun r12 σ13 h1 hf => ?_)
      have hv := k_X8_takeNumber h1 hv
      refine fk_mem hf (KI.up hv (by rcases hg11 with hz | hz <;> rw [hz] <;> (try simp only [Int.toNat_natCast, Int.reduceToNat]) <;> omega)) (fun σ14 hv hf => ?_)
      exact k_X6_readSetting_b108 hf hv
  · refine f_mob hf (fun r15 σ16 h1 hf => ?_)
    have hv := k_X8_next h1 hv
    refine f_gp hf (fun hg17 hf => ?_)
    refine f_mob hf (fun r18 σ19 h1 hf => ?_)
    have hv := k_X8_takeNumber h1 hv
    refine fk_mem hf (KI.up hv (by rcases hg17 with hz | hz <;> rw [hz] <;> (try simp only [Int.toNat_natCast, Int.reduceToNat]) <;> omega)) (fun σ20 hv hf => ?_)
    exact k_X6_readSetting_b108 hf hv
theorem k_X6_refuseOneTooMany_b90 {kc : Bool} {F : Nat}  {r : Int} {σ' : mMem}   {σ : mMem} (hf : g_X6_refuseOneTooMany_b90 F  σ = some (r, σ')) (hv : KI kc σ) : KI kc σ' := by
  unfold g_X6_refuseOneTooMany_b90 at hf
  cases hf
  exact hv
theorem k_X6_refuseOneTooMany_b81 {kc : Bool} {F : Nat}  {r : Int} {σ' : mMem}   {σ : mMem} (hf : g_X6_refuseOneTooMany_b81 F  σ = some (r, σ')) (hv : KI kc σ) : KI kc σ' := by
  unfold g_X6_refuseOneTooMany_b81 at hf
  refine f_mob hf (fun r808 σ809 h1 hf => ?_)
  have hv := k_X8_refuseHere (by decide) h1 hv
  exact k_X6_refuseOneTooMany_b90 hf hv
theorem k_X6_refuseOneTooMany_b66 {kc : Bool} {F : Nat}  {r : Int} {σ' : mMem}   {x2 x3 t0 : Int} {σ : mMem} (hf : g_X6_refuseOneTooMany_b66 F x2 x3 t0 σ = some (r, σ')) (hv : KI kc σ) : KI kc σ' := by
  unfold g_X6_refuseOneTooMany_b66 at hf
  refine f_ite hf (fun hf => ?_) (fun hf => ?_)
  · exact k_X6_refuseOneTooMany_b81 hf hv
  · refine f_ite hf (fun hf => ?_) (fun hf => ?_)
    · exact k_X6_refuseOneTooMany_b81 hf hv
    · refine f_ite hf (fun hf => ?_) (fun hf => ?_)
      · exact k_X6_refuseOneTooMany_b90 hf hv
      · exact k_X6_refuseOneTooMany_b81 hf hv
theorem k_X6_refuseOneTooMany_b65 {kc : Bool} {F : Nat}  {r : Int} {σ' : mMem}   {x2 x3 : Int} {σ : mMem} (hf : g_X6_refuseOneTooMany_b65 F x2 x3 σ = some (r, σ')) (hv : KI kc σ) : KI kc σ' := by
  unfold g_X6_refuseOneTooMany_b65 at hf
  exact k_X6_refuseOneTooMany_b66 hf hv
theorem k_X6_refuseOneTooMany_b44 {kc : Bool} {F : Nat}  {r : Int} {σ' : mMem}   {x1 x2 t0 : Int} {σ : mMem} (hf : g_X6_refuseOneTooMany_b44 F x1 x2 t0 σ = some (r, σ')) (hv : KI kc σ) : KI kc σ' := by
  unfold g_X6_refuseOneTooMany_b44 at hf
  refine f_ite hf (fun hf => ?_) (fun hf => ?_)
  · exact k_X6_refuseOneTooMany_b65 hf hv
  · refine f_gp hf (fun hg305 hf => ?_)
    refine f_mob hf (fun r306 σ307 h1 hf => ?_)
    have hv := KI.of (fun q j hq => f_X5_hasGoes h1 q j (by unfold T_X5_hasGoes; exact id)) hv
    refine f_ite hf (fun hf => ?_) (fun hf => ?_)
    · exact k_X6_refuseOneTooMany_b65 hf hv
    · exact k_X6_refuseOneTooMany_b66 hf hv
theorem k_X6_refuseOneTooMany_b43 {kc : Bool} {F : Nat}  {r : Int} {σ' : mMem}   {x1 x2 : Int} {σ : mMem} (hf : g_X6_refuseOneTooMany_b43 F x1 x2 σ = some (r, σ')) (hv : KI kc σ) : KI kc σ' := by
  unfold g_X6_refuseOneTooMany_b43 at hf
  exact k_X6_refuseOneTooMany_b44 hf hv
theorem k_X6_refuseOneTooMany_b22 {kc : Bool} {F : Nat}  {r : Int} {σ' : mMem}   {x1 t0 : Int} {σ : mMem} (hf : g_X6_refuseOneTooMany_b22 F x1 t0 σ = some (r, σ')) (hv : KI kc σ) : KI kc σ' := by
  unfold g_X6_refuseOneTooMany_b22 at hf
  refine f_ite hf (fun hf => ?_) (fun hf => ?_)
  · exact k_X6_refuseOneTooMany_b43 hf hv
  · refine f_gp hf (fun hg102 hf => ?_)
    refine f_mob hf (fun r103 σ104 h1 hf => ?_)
    have hv := KI.of (fun q j hq => f_X5_hasSteers h1 q j (by unfold T_X5_hasSteers; exact id)) hv
    refine f_ite hf (fun hf => ?_) (fun hf => ?_)
    · exact k_X6_refuseOneTooMany_b43 hf hv
    · exact k_X6_refuseOneTooMany_b44 hf hv
theorem k_X6_refuseOneTooMany_b21 {kc : Bool} {F : Nat}  {r : Int} {σ' : mMem}   {x1 : Int} {σ : mMem} (hf : g_X6_refuseOneTooMany_b21 F x1 σ = some (r, σ')) (hv : KI kc σ) : KI kc σ' := by
  unfold g_X6_refuseOneTooMany_b21 at hf
  exact k_X6_refuseOneTooMany_b22 hf hv
theorem k_X6_refuseOneTooMany {kc : Bool} {F : Nat}  {r : Int} {σ' : mMem} {x1 : Int} {σ : mMem} (hf : g_X6_refuseOneTooMany F x1 σ = some (r, σ')) (hv : KI kc σ) : KI kc σ' := by
  unfold g_X6_refuseOneTooMany at hf
  refine f_ite hf (fun hf => ?_) (fun hf => ?_)
  · exact k_X6_refuseOneTooMany_b21 hf hv
  · refine f_gp hf (fun hg1 hf => ?_)
    refine f_ite hf (fun hf => ?_) (fun hf => ?_)
    · exact k_X6_refuseOneTooMany_b21 hf hv
    · exact k_X6_refuseOneTooMany_b22 hf hv
theorem k_X6_readStatement_b180 {kc : Bool} {F : Nat}  {r : Int} {σ' : mMem}   {σ : mMem} (hf : g_X6_readStatement_b180 F  σ = some (r, σ')) (hv : KI kc σ) : KI kc σ' := by
  unfold g_X6_readStatement_b180 at hf
  cases hf
  exact hv
theorem k_X6_readStatement_b175 {kc : Bool} {F : Nat}  {r : Int} {σ' : mMem}   {x2 : Int} {σ : mMem} (hf : g_X6_readStatement_b175 F x2 σ = some (r, σ')) (hv : KI kc σ) : KI kc σ' := by
  unfold g_X6_readStatement_b175 at hf
  refine f_mob hf (fun r421 σ422 h1 hf => ?_)
  have hv := k_X6_readSetting h1 hv
  exact k_X6_readStatement_b180 hf hv
theorem k_X6_readStatement_b33 {kc : Bool} {F : Nat}  {r : Int} {σ' : mMem}   {x2 t0 t1 : Int} {σ : mMem} (hf : g_X6_readStatement_b33 F x2 t0 t1 σ = some (r, σ')) (hv : KI kc σ) : KI kc σ' := by
  unfold g_X6_readStatement_b33 at hf
  refine f_ite hf (fun hf => ?_) (fun hf => ?_)
  · refine f_mob hf (fun r201 σ202 h1 hf => ?_)
    have hv := k_X6_refuseOneTooMany h1 hv
    refine f_ite hf (fun hf => ?_) (fun hf => ?_)
    · refine f_mob hf (fun r203 σ204 h1 hf => ?_)
      have hv := k_X6_readFloor h1 hv
      exact k_X6_readStatement_b180 hf hv
    refine f_ite hf (fun hf => ?_) (fun hf => ?_)
    · exact k_X6_readStatement_b175 hf hv
    refine f_ite hf (fun hf => ?_) (fun hf => ?_)
    · refine f_mob hf (fun r205 σ206 h1 hf => ?_)
      have hv := k_X6_readGrey h1 hv
      exact k_X6_readStatement_b180 hf hv
    refine f_ite hf (fun hf => ?_) (fun hf => ?_)
    · refine f_mob hf (fun r207 σ208 h1 hf => ?_)
      have hv := k_X6_readBox h1 hv
      exact k_X6_readStatement_b180 hf hv
    refine f_ite hf (fun hf => ?_) (fun hf => ?_)
    · exact k_X6_readStatement_b175 hf hv
    refine f_ite hf (fun hf => ?_) (fun hf => ?_)
    · exact k_X6_readStatement_b175 hf hv
    refine f_ite hf (fun hf => ?_) (fun hf => ?_)
    · refine f_mob hf (fun r209 σ210 h1 hf => ?_)
      have hv := k_X6_readEyes h1 hv
      exact k_X6_readStatement_b180 hf hv
    refine f_ite hf (fun hf => ?_) (fun hf => ?_)
    · exact k_X6_readStatement_b175 hf hv
    refine f_ite hf (fun hf => ?_) (fun hf => ?_)
    · exact k_X6_readStatement_b175 hf hv
    refine f_ite hf (fun hf => ?_) (fun hf => ?_)
    · refine f_mob hf (fun r211 σ212 h1 hf => ?_)
      have hv := k_X6_readBias h1 hv
      exact k_X6_readStatement_b180 hf hv
    refine f_ite hf (fun hf => ?_) (fun hf => ?_)
    · refine f_gp hf (fun hg213 hf => ?_)
      refine f_mob hf (fun r214 σ215 h1 hf => ?_)
      have hv := k_X1_readSteers h1 hv
      exact k_X6_readStatement_b180 hf hv
    refine f_ite hf (fun hf => ?_) (fun hf => ?_)
    · refine f_gp hf (fun hg216 hf => ?_)
      refine f_mob hf (fun r217 σ218 h1 hf => ?_)
      have hv := k_X1_readGoes h1 hv
      exact k_X6_readStatement_b180 hf hv
    exact k_X6_readStatement_b175 hf hv
  · refine f_mob hf (fun r219 σ220 h1 hf => ?_)
    have hv := k_X8_refuseHere (by decide) h1 hv
    cases hf
    exact hv
theorem k_X6_readStatement_b22 {kc : Bool} {F : Nat}  {r : Int} {σ' : mMem}   {x1 t0 : Int} {σ : mMem} (hf : g_X6_readStatement_b22 F x1 t0 σ = some (r, σ')) (hv : KI kc σ) : KI kc σ' := by
  unfold g_X6_readStatement_b22 at hf
  refine f_ite hf (fun hf => ?_) (fun hf => ?_)
  · exact k_X6_readStatement_b33 hf hv
  · exact k_X6_readStatement_b33 hf hv
theorem k_X6_readStatement {kc : Bool} {F : Nat}  {r : Int} {σ' : mMem} {x1 : Int} {σ : mMem} (hf : g_X6_readStatement F x1 σ = some (r, σ')) (hv : KI kc σ) : KI kc σ' := by
  unfold g_X6_readStatement at hf
  refine f_ite hf (fun hf => ?_) (fun hf => ?_)
  · exact k_X6_readStatement_b22 hf hv
  · exact k_X6_readStatement_b22 hf hv
theorem k_X8_refuseMore_b44 {kc : Bool} {F : Nat}  {r : Int} {σ' : mMem}   {σ : mMem} (hf : g_X8_refuseMore_b44 F  σ = some (r, σ')) (hv : KI kc σ) : KI kc σ' := by
  unfold g_X8_refuseMore_b44 at hf
  cases hf
  exact hv
theorem k_X8_refuseMore {kc : Bool} {F : Nat}  {r : Int} {σ' : mMem} {σ : mMem} (hf : g_X8_refuseMore F σ = some (r, σ')) (hv : KI kc σ) : KI kc σ' := by
  unfold g_X8_refuseMore at hf
  refine f_let hf (fun y1 hf => ?_)
  refine f_ite hf (fun hf => ?_) (fun hf => ?_)
  · exact k_X8_refuseMore_b44 hf hv
  · refine f_ite hf (fun hf => ?_) (fun hf => ?_)
    · exact k_X8_refuseMore_b44 hf hv
    · refine f_ite hf (fun hf => ?_) (fun hf => ?_)
      · exact k_X8_refuseMore_b44 hf hv
      · refine f_gd hf (fun hf => ?_)
        refine fk_mem hf (KI.up hv (by omega)) (fun σ2 hv hf => ?_)
        refine f_mob hf (fun r3 σ4 h1 hf => ?_)
        have hv := k_X8_refuseHere (by decide) h1 hv
        exact k_X8_refuseMore_b44 hf hv
theorem k_X12_lex_b17 {kc : Bool} {F : Nat}  {r : Int} {σ' : mMem}   {σ : mMem} (hf : g_X12_lex_b17 F  σ = some (r, σ')) (hv : KI kc σ) : KI kc σ' := by
  unfold g_X12_lex_b17 at hf
  cases hf
  exact hv
theorem k_X12_lex {kc : Bool} {F : Nat}  {r : Int} {σ' : mMem} {σ : mMem} (hf : g_X12_lex F σ = some (r, σ')) (hv : KI kc σ) : KI kc σ' := by
  unfold g_X12_lex at hf
  refine f_ite hf (fun hf => ?_) (fun hf => ?_)
  · exact k_X12_lex_b17 hf hv
  · refine f_mob hf (fun r1 σ2 h1 hf => ?_)
    have hv := k_X12_blame (by decide) h1 hv
    exact k_X12_lex_b17 hf hv
theorem k_X12_must_b32 {kc : Bool} {F : Nat}  {r : Int} {σ' : mMem}   {σ : mMem} (hf : g_X12_must_b32 F  σ = some (r, σ')) (hv : KI kc σ) : KI kc σ' := by
  unfold g_X12_must_b32 at hf
  cases hf
  exact hv
theorem k_X12_must_b21 {kc : Bool} {F : Nat}  {r : Int} {σ' : mMem}   {σ : mMem} (hf : g_X12_must_b21 F  σ = some (r, σ')) (hv : KI kc σ) : KI kc σ' := by
  unfold g_X12_must_b21 at hf
  refine f_ite hf (fun hf => ?_) (fun hf => ?_)
  · exact k_X12_must_b32 hf hv
  · refine f_mob hf (fun r107 σ108 h1 hf => ?_)
    have hv := KI.of (fun q j hq => f_X12_ahead h1 q j (by unfold T_X12_ahead; omega)) hv
    exact k_X12_must_b32 hf hv
theorem k_X12_must {kc : Bool} {F : Nat}  {r : Int} {σ' : mMem} {x1 : Int} {σ : mMem} (hf : g_X12_must F x1 σ = some (r, σ')) (hv : KI kc σ) : KI kc σ' := by
  unfold g_X12_must at hf
  refine f_mob hf (fun r1 σ2 h1 hf => ?_)
  have hv := k_X12_lex h1 hv
  refine f_mob hf (fun r3 σ4 h1 hf => ?_)
  have hv := KI.of (fun q j hq => f_X12_isSign h1 q j (by unfold T_X12_isSign; exact id)) hv
  refine f_ite hf (fun hf => ?_) (fun hf => ?_)
  · exact k_X12_must_b21 hf hv
  · refine f_mob hf (fun r5 σ6 h1 hf => ?_)
    have hv := k_X12_blame (by decide) h1 hv
    exact k_X12_must_b21 hf hv
theorem k_X12_number_b74 {kc : Bool} {F : Nat}  {r : Int} {σ' : mMem}   {x3 : Int} {σ : mMem} (hf : g_X12_number_b74 F x3 σ = some (r, σ')) (hv : KI kc σ) : KI kc σ' := by
  unfold g_X12_number_b74 at hf
  cases hf
  exact hv
theorem k_X12_number_b58 {kc : Bool} {F : Nat}  {r : Int} {σ' : mMem}   {σ : mMem} (hf : g_X12_number_b58 F  σ = some (r, σ')) (hv : KI kc σ) : KI kc σ' := by
  unfold g_X12_number_b58 at hf
  refine f_let hf (fun y209 hf => ?_)
  refine f_ite hf (fun hf => ?_) (fun hf => ?_)
  · exact k_X12_number_b74 hf hv
  · refine f_mob hf (fun r210 σ211 h1 hf => ?_)
    have hv := KI.of (fun q j hq => f_X12_ahead h1 q j (by unfold T_X12_ahead; omega)) hv
    exact k_X12_number_b74 hf hv
theorem k_X12_number_b30 {kc : Bool} {F : Nat}  {r : Int} {σ' : mMem}   {x1 x2 : Int} {σ : mMem} (hf : g_X12_number_b30 F x1 x2 σ = some (r, σ')) (hv : KI kc σ) : KI kc σ' := by
  unfold g_X12_number_b30 at hf
  refine f_ite hf (fun hf => ?_) (fun hf => ?_)
  · exact k_X12_number_b58 hf hv
  · refine f_mob hf (fun r105 σ106 h1 hf => ?_)
    have hv := KI.of (fun q j hq => f_X12_is h1 q j (by unfold T_X12_is; exact id)) hv
    refine f_ite hf (fun hf => ?_) (fun hf => ?_)
    · exact k_X12_number_b58 hf hv
    · refine f_mob hf (fun r107 σ108 h1 hf => ?_)
      have hv := k_X12_blame (by decide) h1 hv
      exact k_X12_number_b58 hf hv
theorem k_X12_number {kc : Bool} {F : Nat}  {r : Int} {σ' : mMem} {x1 x2 : Int} {σ : mMem} (hf : g_X12_number F x1 x2 σ = some (r, σ')) (hv : KI kc σ) : KI kc σ' := by
  unfold g_X12_number at hf
  refine f_mob hf (fun r1 σ2 h1 hf => ?_)
  have hv := k_X12_lex h1 hv
  refine f_ite hf (fun hf => ?_) (fun hf => ?_)
  · refine f_ite hf (fun hf => ?_) (fun hf => ?_)
    · exact k_X12_number_b30 hf hv
    · refine f_mob hf (fun r3 σ4 h1 hf => ?_)
      have hv := k_X12_blame (by decide) h1 hv
      exact k_X12_number_b30 hf hv
  · cases hf
    exact hv
theorem k_X12_opens_b18 {kc : Bool} {F : Nat}  {r : Int} {σ' : mMem}   {x1 : Int} {σ : mMem} (hf : g_X12_opens_b18 F x1 σ = some (r, σ')) (hv : KI kc σ) : KI kc σ' := by
  unfold g_X12_opens_b18 at hf
  refine f_ite hf (fun hf => ?_) (fun hf => ?_)
  · refine fk_mem hf (KI.up hv (by omega)) (fun σ103 hv hf => ?_)
    refine f_mob hf (fun r104 σ105 h1 hf => ?_)
    have hv := KI.of (fun q j hq => f_X12_ahead h1 q j (by unfold T_X12_ahead; omega)) hv
    refine f_mob hf (fun r106 σ107 h1 hf => ?_)
    have hv := KI.of (fun q j hq => f_X12_pushes h1 q j (by unfold T_X12_pushes; omega)) hv
    cases hf
    exact hv
  · cases hf
    exact hv
theorem k_X12_opens {kc : Bool} {F : Nat}  {r : Int} {σ' : mMem} {x1 : Int} {σ : mMem} (hf : g_X12_opens F x1 σ = some (r, σ')) (hv : KI kc σ) : KI kc σ' := by
  unfold g_X12_opens at hf
  refine f_ite hf (fun hf => ?_) (fun hf => ?_)
  · exact k_X12_opens_b18 hf hv
  · refine f_mob hf (fun r1 σ2 h1 hf => ?_)
    have hv := k_X12_blame (by decide) h1 hv
    exact k_X12_opens_b18 hf hv
theorem k_X12_operand_b311 {kc : Bool} {F : Nat}  {r : Int} {σ' : mMem}   {σ : mMem} (hf : g_X12_operand_b311 F  σ = some (r, σ')) (hv : KI kc σ) : KI kc σ' := by
  unfold g_X12_operand_b311 at hf
  refine f_gd hf (fun hf => ?_)
  cases hf
  exact hv
theorem k_X12_operand_b289 {kc : Bool} {F : Nat}  {r : Int} {σ' : mMem}   {x3 t0 : Int} {σ : mMem} (hf : g_X12_operand_b289 F x3 t0 σ = some (r, σ')) (hv : KI kc σ) : KI kc σ' := by
  unfold g_X12_operand_b289 at hf
  refine f_mob hf (fun r1369 σ1370 h1 hf => ?_)
  have hv := k_X12_opens h1 hv
  refine f_ite hf (fun hf => ?_) (fun hf => ?_)
  · exact k_X12_operand_b311 hf hv
  · refine f_gd hf (fun hf => ?_)
    refine fk_mem hf (KI.up hv (by omega)) (fun σ1371 hv hf => ?_)
    exact k_X12_operand_b311 hf hv
theorem k_X12_operand_b276 {kc : Bool} {F : Nat}  {r : Int} {σ' : mMem}   {x3 : Int} {σ : mMem} (hf : g_X12_operand_b276 F x3 σ = some (r, σ')) (hv : KI kc σ) : KI kc σ' := by
  unfold g_X12_operand_b276 at hf
  refine f_ite hf (fun hf => ?_) (fun hf => ?_)
  · exact k_X12_operand_b289 hf hv
  · exact k_X12_operand_b289 hf hv
theorem k_X12_operand_b249 {kc : Bool} {F : Nat}  {r : Int} {σ' : mMem}   {t0 : Int} {σ : mMem} (hf : g_X12_operand_b249 F t0 σ = some (r, σ')) (hv : KI kc σ) : KI kc σ' := by
  unfold g_X12_operand_b249 at hf
  refine f_mob hf (fun r955 σ956 h1 hf => ?_)
  have hv := KI.of (fun q j hq => f_X12_ahead h1 q j (by unfold T_X12_ahead; omega)) hv
  refine f_mob hf (fun r957 σ958 h1 hf => ?_)
  have hv := k_X12_lex h1 hv
  refine f_mob hf (fun r959 σ960 h1 hf => ?_)
  have hv := KI.of (fun q j hq => f_X12_isSign h1 q j (by unfold T_X12_isSign; exact id)) hv
  refine f_ite hf (fun hf => ?_) (fun hf => ?_)
  · exact k_X12_operand_b276 hf hv
  · refine f_mob hf (fun r961 σ962 h1 hf => ?_)
    have hv := k_X12_blame (by decide) h1 hv
    exact k_X12_operand_b276 hf hv
theorem k_X12_operand_b217 {kc : Bool} {F : Nat}  {r : Int} {σ' : mMem}   {σ : mMem} (hf : g_X12_operand_b217 F  σ = some (r, σ')) (hv : KI kc σ) : KI kc σ' := by
  unfold g_X12_operand_b217 at hf
  refine f_mob hf (fun r751 σ752 h1 hf => ?_)
  have hv := KI.of (fun q j hq => f_X12_isWord h1 q j (by unfold T_X12_isWord; exact id)) hv
  refine f_ite hf (fun hf => ?_) (fun hf => ?_)
  · refine f_mob hf (fun r753 σ754 h1 hf => ?_)
    have hv := KI.of (fun q j hq => f_X12_isWord h1 q j (by unfold T_X12_isWord; exact id)) hv
    refine f_ite hf (fun hf => ?_) (fun hf => ?_)
    · exact k_X12_operand_b249 hf hv
    · exact k_X12_operand_b249 hf hv
  · exact k_X12_operand_b249 hf hv
theorem k_X12_operand_b455 {kc : Bool} {F : Nat}  {r : Int} {σ' : mMem}   {x3 : Int} {σ : mMem} (hf : g_X12_operand_b455 F x3 σ = some (r, σ')) (hv : KI kc σ) : KI kc σ' := by
  unfold g_X12_operand_b455 at hf
  refine f_ite hf (fun hf => ?_) (fun hf => ?_)
  · refine f_mob hf (fun r1265 σ1266 h1 hf => ?_)
    have hv := KI.of (fun q j hq => f_X12_add h1 q j (by unfold T_X12_add; omega)) hv
    refine f_mob hf (fun r1267 σ1268 h1 hf => ?_)
    have hv := KI.of (fun q j hq => f_X12_ahead h1 q j (by unfold T_X12_ahead; omega)) hv
    refine f_gd hf (fun hf => ?_)
    cases hf
    exact hv
  · refine f_gd hf (fun hf => ?_)
    cases hf
    exact hv
theorem k_X12_operand_b441 {kc : Bool} {F : Nat}  {r : Int} {σ' : mMem}   {x3 : Int} {σ : mMem} (hf : g_X12_operand_b441 F x3 σ = some (r, σ')) (hv : KI kc σ) : KI kc σ' := by
  unfold g_X12_operand_b441 at hf
  refine f_ite hf (fun hf => ?_) (fun hf => ?_)
  · exact k_X12_operand_b455 hf hv
  · refine f_mob hf (fun r1063 σ1064 h1 hf => ?_)
    have hv := k_X12_blame (by decide) h1 hv
    exact k_X12_operand_b455 hf hv
theorem k_X12_operand_b426 {kc : Bool} {F : Nat}  {r : Int} {σ' : mMem}   {t0 : Int} {σ : mMem} (hf : g_X12_operand_b426 F t0 σ = some (r, σ')) (hv : KI kc σ) : KI kc σ' := by
  unfold g_X12_operand_b426 at hf
  refine f_ite hf (fun hf => ?_) (fun hf => ?_)
  · exact k_X12_operand_b441 hf hv
  · refine f_ite hf (fun hf => ?_) (fun hf => ?_)
    · exact k_X12_operand_b441 hf hv
    · exact k_X12_operand_b441 hf hv
theorem k_X12_operand_b171 {kc : Bool} {F : Nat}  {r : Int} {σ' : mMem}   {σ : mMem} (hf : g_X12_operand_b171 F  σ = some (r, σ')) (hv : KI kc σ) : KI kc σ' := by
  unfold g_X12_operand_b171 at hf
  refine f_mob hf (fun r627 σ628 h1 hf => ?_)
  have hv := KI.of (fun q j hq => f_X12_isSign h1 q j (by unfold T_X12_isSign; exact id)) hv
  refine f_ite hf (fun hf => ?_) (fun hf => ?_)
  · refine f_mob hf (fun r629 σ630 h1 hf => ?_)
    have hv := KI.of (fun q j hq => f_X12_isWord h1 q j (by unfold T_X12_isWord; exact id)) hv
    refine f_ite hf (fun hf => ?_) (fun hf => ?_)
    · exact k_X12_operand_b217 hf hv
    · refine f_mob hf (fun r631 σ632 h1 hf => ?_)
      have hv := KI.of (fun q j hq => f_X12_isWord h1 q j (by unfold T_X12_isWord; exact id)) hv
      refine f_ite hf (fun hf => ?_) (fun hf => ?_)
      · exact k_X12_operand_b217 hf hv
      · refine f_mob hf (fun r633 σ634 h1 hf => ?_)
        have hv := KI.of (fun q j hq => f_X12_isWord h1 q j (by unfold T_X12_isWord; exact id)) hv
        refine f_ite hf (fun hf => ?_) (fun hf => ?_)
        · refine f_ite hf (fun hf => ?_) (fun hf => ?_)
          · refine f_mob hf (fun r635 σ636 h1 hf => ?_)
            have hv := KI.of (fun q j hq => f_X12_isWord h1 q j (by unfold T_X12_isWord; exact id)) hv
            refine f_ite hf (fun hf => ?_) (fun hf => ?_)
            · refine f_mob hf (fun r637 σ638 h1 hf => ?_)
              have hv := KI.of (fun q j hq => f_X12_isWord h1 q j (by unfold T_X12_isWord; exact id)) hv
              refine f_ite hf (fun hf => ?_) (fun hf => ?_)
              · refine f_mob hf (fun r639 σ640 h1 hf => ?_)
                have hv := KI.of (fun q j hq => f_X12_isWord h1 q j (by unfold T_X12_isWord; exact id)) hv
                refine f_ite hf (fun hf => ?_) (fun hf => ?_)
                · refine f_mob hf (fun r641 σ642 h1 hf => ?_)
                  have hv := KI.of (fun q j hq => f_X12_isWord h1 q j (by unfold T_X12_isWord; exact id)) hv
                  refine f_ite hf (fun hf => ?_) (fun hf => ?_)
                  · refine f_mob hf (fun r643 σ644 h1 hf => ?_)
                    have hv := KI.of (fun q j hq => f_X12_isWord h1 q j (by unfold T_X12_isWord; exact id)) hv
                    refine f_ite hf (fun hf => ?_) (fun hf => ?_)
                    · refine f_mob hf (fun r645 σ646 h1 hf => ?_)
                      have hv := KI.of (fun q j hq => f_X12_isWord h1 q j (by unfold T_X12_isWord; exact id)) hv
                      refine f_ite hf (fun hf => ?_) (fun hf => ?_)
                      · refine f_mob hf (fun r647 σ648 h1 hf => ?_)
                        have hv := KI.of (fun q j hq => f_X12_isWord h1 q j (by unfold T_X12_isWord; exact id)) hv
                        refine f_ite hf (fun hf => ?_) (fun hf => ?_)
                        · exact k_X12_operand_b426 hf hv
                        · exact k_X12_operand_b426 hf hv
                      · exact k_X12_operand_b426 hf hv
                    · exact k_X12_operand_b426 hf hv
                  · exact k_X12_operand_b426 hf hv
                · exact k_X12_operand_b426 hf hv
              · exact k_X12_operand_b426 hf hv
            · exact k_X12_operand_b426 hf hv
          · exact k_X12_operand_b426 hf hv
        · exact k_X12_operand_b217 hf hv
  · refine f_mob hf (fun r649 σ650 h1 hf => ?_)
    have hv := k_X12_opens h1 hv
    refine f_gd hf (fun hf => ?_)
    cases hf
    exact hv
theorem k_X12_operand_b137 {kc : Bool} {F : Nat}  {r : Int} {σ' : mMem}   {x1 x2 : Int} {σ : mMem} (hf : g_X12_operand_b137 F x1 x2 σ = some (r, σ')) (hv : KI kc σ) : KI kc σ' := by
  unfold g_X12_operand_b137 at hf
  refine f_ite hf (fun hf => ?_) (fun hf => ?_)
  · exact k_X12_operand_b171 hf hv
  · refine f_mob hf (fun r520 σ521 h1 hf => ?_)
    have hv := KI.of (fun q j hq => f_X12_isWord h1 q j (by unfold T_X12_isWord; exact id)) hv
    refine f_ite hf (fun hf => ?_) (fun hf => ?_)
    · exact k_X12_operand_b171 hf hv
    · refine f_mob hf (fun r522 σ523 h1 hf => ?_)
      have hv := KI.of (fun q j hq => f_X12_add h1 q j (by unfold T_X12_add; omega)) hv
      refine f_gd hf (fun hf => ?_)
      refine fk_mem hf (KI.up hv (by omega)) (fun σ524 hv hf => ?_)
      refine f_mob hf (fun r525 σ526 h1 hf => ?_)
      have hv := KI.of (fun q j hq => f_X12_ahead h1 q j (by unfold T_X12_ahead; omega)) hv
      refine f_gd hf (fun hf => ?_)
      cases hf
      exact hv
theorem k_X12_operand_b110 {kc : Bool} {F : Nat}  {r : Int} {σ' : mMem}   {x1 x2 : Int} {σ : mMem} (hf : g_X12_operand_b110 F x1 x2 σ = some (r, σ')) (hv : KI kc σ) : KI kc σ' := by
  unfold g_X12_operand_b110 at hf
  refine f_gd hf (fun hf => ?_)
  refine fk_mem hf (KI.up hv (by omega)) (fun σ310 hv hf => ?_)
  refine f_ite hf (fun hf => ?_) (fun hf => ?_)
  · exact k_X12_operand_b137 hf hv
  · refine f_mob hf (fun r311 σ312 h1 hf => ?_)
    have hv := KI.of (fun q j hq => f_X12_isSign h1 q j (by unfold T_X12_isSign; exact id)) hv
    refine f_ite hf (fun hf => ?_) (fun hf => ?_)
    · exact k_X12_operand_b137 hf hv
    · refine f_mob hf (fun r313 σ314 h1 hf => ?_)
      have hv := k_X12_opens h1 hv
      refine f_gd hf (fun hf => ?_)
      cases hf
      exact hv
theorem k_X12_operand_b79 {kc : Bool} {F : Nat}  {r : Int} {σ' : mMem}   {σ : mMem} (hf : g_X12_operand_b79 F  σ = some (r, σ')) (hv : KI kc σ) : KI kc σ' := by
  unfold g_X12_operand_b79 at hf
  refine f_ite hf (fun hf => ?_) (fun hf => ?_)
  · refine fk_mem hf (KI.up hv (by omega)) (fun σ415 hv hf => ?_)
    refine f_mob hf (fun r416 σ417 h1 hf => ?_)
    have hv := KI.of (fun q j hq => f_X12_holdsBack h1 q j (by unfold T_X12_holdsBack; omega)) hv
    refine f_mob hf (fun r418 σ419 h1 hf => ?_)
    have hv := KI.of (fun q j hq => f_X12_ahead h1 q j (by unfold T_X12_ahead; omega)) hv
    refine f_gd hf (fun hf => ?_)
    cases hf
    exact hv
  · refine f_gd hf (fun hf => ?_)
    cases hf
    exact hv
theorem k_X12_operand_b46 {kc : Bool} {F : Nat}  {r : Int} {σ' : mMem}   {x1 t0 : Int} {σ : mMem} (hf : g_X12_operand_b46 F x1 t0 σ = some (r, σ')) (hv : KI kc σ) : KI kc σ' := by
  unfold g_X12_operand_b46 at hf
  refine f_ite hf (fun hf => ?_) (fun hf => ?_)
  · exact k_X12_operand_b110 hf hv
  · refine f_mob hf (fun r106 σ107 h1 hf => ?_)
    have hv := KI.of (fun q j hq => f_X12_isWord h1 q j (by unfold T_X12_isWord; exact id)) hv
    refine f_ite hf (fun hf => ?_) (fun hf => ?_)
    · exact k_X12_operand_b110 hf hv
    · refine f_ite hf (fun hf => ?_) (fun hf => ?_)
      · exact k_X12_operand_b79 hf hv
      · refine f_mob hf (fun r108 σ109 h1 hf => ?_)
        have hv := k_X12_blame (by decide) h1 hv
        exact k_X12_operand_b79 hf hv
theorem k_X12_operand_b45 {kc : Bool} {F : Nat}  {r : Int} {σ' : mMem}   {x1 : Int} {σ : mMem} (hf : g_X12_operand_b45 F x1 σ = some (r, σ')) (hv : KI kc σ) : KI kc σ' := by
  unfold g_X12_operand_b45 at hf
  exact k_X12_operand_b46 hf hv
theorem k_X12_operand {kc : Bool} {F : Nat}  {r : Int} {σ' : mMem} {σ : mMem} (hf : g_X12_operand F σ = some (r, σ')) (hv : KI kc σ) : KI kc σ' := by
  unfold g_X12_operand at hf
  refine f_mob hf (fun r1 σ2 h1 hf => ?_)
  have hv := k_X12_lex h1 hv
  refine f_ite hf (fun hf => ?_) (fun hf => ?_)
  · refine f_let hf (fun y3 hf => ?_)
    refine f_gd hf (fun hf => ?_)
    refine f_mob hf (fun r4 σ5 h1 hf => ?_)
    have hv := KI.of (fun q j hq => f_X12_isTest h1 q j (by unfold T_X12_isTest; exact id)) hv
    refine f_ite hf (fun hf => ?_) (fun hf => ?_)
    · exact k_X12_operand_b45 hf hv
    · refine f_gd hf (fun hf => ?_)
      refine f_ite hf (fun hf => ?_) (fun hf => ?_)
      · exact k_X12_operand_b45 hf hv
      · exact k_X12_operand_b46 hf hv
  · refine f_gd hf (fun hf => ?_)
    cases hf
    exact hv
theorem k_X12_goesOn_b499 {kc : Bool} {F : Nat}  {r : Int} {σ' : mMem}   {x1 t0 t1 : Int} {σ : mMem} (hf : g_X12_goesOn_b499 F x1 t0 t1 σ = some (r, σ')) (hv : KI kc σ) : KI kc σ' := by
  unfold g_X12_goesOn_b499 at hf
  refine f_gd hf (fun hf => ?_)
  refine fk_mem hf (KI.up hv (by omega)) (fun σ2091 hv hf => ?_)
  refine f_gd hf (fun hf => ?_)
  refine fk_mem hf (KI.up hv (by omega)) (fun σ2092 hv hf => ?_)
  refine f_mob hf (fun r2093 σ2094 h1 hf => ?_)
  have hv := KI.of (fun q j hq => f_X12_ahead h1 q j (by unfold T_X12_ahead; omega)) hv
  refine f_gd hf (fun hf => ?_)
  refine fk_mem hf (KI.up hv (by omega)) (fun σ2095 hv hf => ?_)
  refine f_gd hf (fun hf => ?_)
  cases hf
  exact hv
theorem k_X12_goesOn_b470 {kc : Bool} {F : Nat}  {r : Int} {σ' : mMem}   {x1 x2 : Int} {σ : mMem} (hf : g_X12_goesOn_b470 F x1 x2 σ = some (r, σ')) (hv : KI kc σ) : KI kc σ' := by
  unfold g_X12_goesOn_b470 at hf
  refine f_ite hf (fun hf => ?_) (fun hf => ?_)
  · refine f_mob hf (fun r1776 σ1777 h1 hf => ?_)
    have hv := KI.of (fun q j hq => f_X12_joins h1 q j (by unfold T_X12_joins; omega)) hv
    refine f_ite hf (fun hf => ?_) (fun hf => ?_)
    · exact k_X12_goesOn_b499 hf hv
    · exact k_X12_goesOn_b499 hf hv
  · refine f_gd hf (fun hf => ?_)
    cases hf
    exact hv
theorem k_X12_goesOn_b452 {kc : Bool} {F : Nat}  {r : Int} {σ' : mMem}   {x1 x2 : Int} {σ : mMem} (hf : g_X12_goesOn_b452 F x1 x2 σ = some (r, σ')) (hv : KI kc σ) : KI kc σ' := by
  unfold g_X12_goesOn_b452 at hf
  refine f_mob hf (fun r1366 σ1367 h1 hf => ?_)
  have hv := KI.of (fun q j hq => f_X12_isSign h1 q j (by unfold T_X12_isSign; exact id)) hv
  refine f_ite hf (fun hf => ?_) (fun hf => ?_)
  · exact k_X12_goesOn_b470 hf hv
  · refine f_mob hf (fun r1368 σ1369 h1 hf => ?_)
    have hv := k_X12_blame (by decide) h1 hv
    exact k_X12_goesOn_b470 hf hv
theorem k_X12_goesOn_b613 {kc : Bool} {F : Nat}  {r : Int} {σ' : mMem}   {σ : mMem} (hf : g_X12_goesOn_b613 F  σ = some (r, σ')) (hv : KI kc σ) : KI kc σ' := by
  unfold g_X12_goesOn_b613 at hf
  refine f_mob hf (fun r2297 σ2298 h1 hf => ?_)
  have hv := KI.of (fun q j hq => f_X12_ahead h1 q j (by unfold T_X12_ahead; omega)) hv
  refine f_gd hf (fun hf => ?_)
  cases hf
  exact hv
theorem k_X12_goesOn_b596 {kc : Bool} {F : Nat}  {r : Int} {σ' : mMem}   {x2 : Int} {σ : mMem} (hf : g_X12_goesOn_b596 F x2 σ = some (r, σ')) (hv : KI kc σ) : KI kc σ' := by
  unfold g_X12_goesOn_b596 at hf
  refine f_ite hf (fun hf => ?_) (fun hf => ?_)
  · exact k_X12_goesOn_b613 hf hv
  · refine f_gd hf (fun hf => ?_)
    refine fk_mem hf (KI.up hv (by omega)) (fun σ2196 hv hf => ?_)
    exact k_X12_goesOn_b613 hf hv
theorem k_X12_goesOn_b546 {kc : Bool} {F : Nat}  {r : Int} {σ' : mMem}   {x1 x2 : Int} {σ : mMem} (hf : g_X12_goesOn_b546 F x1 x2 σ = some (r, σ')) (hv : KI kc σ) : KI kc σ' := by
  unfold g_X12_goesOn_b546 at hf
  refine f_ite hf (fun hf => ?_) (fun hf => ?_)
  · refine f_mob hf (fun r1878 σ1879 h1 hf => ?_)
    have hv := KI.of (fun q j hq => f_X12_joins h1 q j (by unfold T_X12_joins; omega)) hv
    refine fk_mem hf (KI.up hv (by omega)) (fun σ1880 hv hf => ?_)
    refine fk_mem hf (KI.up hv (by omega)) (fun σ1881 hv hf => ?_)
    refine f_ite hf (fun hf => ?_) (fun hf => ?_)
    · exact k_X12_goesOn_b596 hf hv
    · refine f_gd hf (fun hf => ?_)
      refine f_mob hf (fun r1882 σ1883 h1 hf => ?_)
      have hv := KI.of (fun q j hq => f_X12_add h1 q j (by unfold T_X12_add; omega)) hv
      exact k_X12_goesOn_b596 hf hv
  · refine f_gd hf (fun hf => ?_)
    cases hf
    exact hv
theorem k_X12_goesOn_b531 {kc : Bool} {F : Nat}  {r : Int} {σ' : mMem}   {x1 x2 t0 : Int} {σ : mMem} (hf : g_X12_goesOn_b531 F x1 x2 t0 σ = some (r, σ')) (hv : KI kc σ) : KI kc σ' := by
  unfold g_X12_goesOn_b531 at hf
  refine f_mob hf (fun r1470 σ1471 h1 hf => ?_)
  have hv := KI.of (fun q j hq => f_X12_isSign h1 q j (by unfold T_X12_isSign; exact id)) hv
  refine f_ite hf (fun hf => ?_) (fun hf => ?_)
  · exact k_X12_goesOn_b546 hf hv
  · refine f_mob hf (fun r1472 σ1473 h1 hf => ?_)
    have hv := k_X12_blame (by decide) h1 hv
    exact k_X12_goesOn_b546 hf hv
theorem k_X12_goesOn_b439 {kc : Bool} {F : Nat}  {r : Int} {σ' : mMem}   {σ : mMem} (hf : g_X12_goesOn_b439 F  σ = some (r, σ')) (hv : KI kc σ) : KI kc σ' := by
  unfold g_X12_goesOn_b439 at hf
  refine f_gd hf (fun hf => ?_)
  cases hf
  exact hv
theorem k_X12_goesOn_b422 {kc : Bool} {F : Nat}  {r : Int} {σ' : mMem}   {x1 x2 : Int} {σ : mMem} (hf : g_X12_goesOn_b422 F x1 x2 σ = some (r, σ')) (hv : KI kc σ) : KI kc σ' := by
  unfold g_X12_goesOn_b422 at hf
  refine f_ite hf (fun hf => ?_) (fun hf => ?_)
  · refine f_ite hf (fun hf => ?_) (fun hf => ?_)
    · exact k_X12_goesOn_b452 hf hv
    · refine f_ite hf (fun hf => ?_) (fun hf => ?_)
      · refine f_ite hf (fun hf => ?_) (fun hf => ?_)
        · exact k_X12_goesOn_b531 hf hv
        · exact k_X12_goesOn_b531 hf hv
      · exact k_X12_goesOn_b452 hf hv
  · refine f_ite hf (fun hf => ?_) (fun hf => ?_)
    · exact k_X12_goesOn_b439 hf hv
    · refine f_mob hf (fun r1162 σ1163 h1 hf => ?_)
      have hv := KI.of (fun q j hq => f_X12_joins h1 q j (by unfold T_X12_joins; omega)) hv
      exact k_X12_goesOn_b439 hf hv
theorem k_X12_goesOn_b400 {kc : Bool} {F : Nat}  {r : Int} {σ' : mMem}   {x1 x2 x3 : Int} {σ : mMem} (hf : g_X12_goesOn_b400 F x1 x2 x3 σ = some (r, σ')) (hv : KI kc σ) : KI kc σ' := by
  unfold g_X12_goesOn_b400 at hf
  refine f_ite hf (fun hf => ?_) (fun hf => ?_)
  · exact k_X12_goesOn_b422 hf hv
  · refine f_gd hf (fun hf => ?_)
    refine f_ite hf (fun hf => ?_) (fun hf => ?_)
    · exact k_X12_goesOn_b422 hf hv
    · refine f_mob hf (fun r747 σ748 h1 hf => ?_)
      have hv := k_X12_blame (by decide) h1 hv
      exact k_X12_goesOn_b422 hf hv
theorem k_X12_goesOn_b372 {kc : Bool} {F : Nat}  {r : Int} {σ' : mMem}   {x1 t0 : Int} {σ : mMem} (hf : g_X12_goesOn_b372 F x1 t0 σ = some (r, σ')) (hv : KI kc σ) : KI kc σ' := by
  unfold g_X12_goesOn_b372 at hf
  refine f_mob hf (fun r1984 σ1985 h1 hf => ?_)
  have hv := KI.of (fun q j hq => f_X12_holdsBack h1 q j (by unfold T_X12_holdsBack; omega)) hv
  refine f_gd hf (fun hf => ?_)
  refine fk_mem hf (KI.up hv (by omega)) (fun σ1986 hv hf => ?_)
  refine f_gd hf (fun hf => ?_)
  refine fk_mem hf (KI.up hv (by omega)) (fun σ1987 hv hf => ?_)
  refine f_mob hf (fun r1988 σ1989 h1 hf => ?_)
  have hv := KI.of (fun q j hq => f_X12_ahead h1 q j (by unfold T_X12_ahead; omega)) hv
  refine f_gd hf (fun hf => ?_)
  refine fk_mem hf (KI.up hv (by omega)) (fun σ1990 hv hf => ?_)
  refine f_gd hf (fun hf => ?_)
  cases hf
  exact hv
theorem k_X12_goesOn_b356 {kc : Bool} {F : Nat}  {r : Int} {σ' : mMem}   {x1 x4 t0 : Int} {σ : mMem} (hf : g_X12_goesOn_b356 F x1 x4 t0 σ = some (r, σ')) (hv : KI kc σ) : KI kc σ' := by
  unfold g_X12_goesOn_b356 at hf
  refine f_mob hf (fun r1674 σ1675 h1 hf => ?_)
  have hv := KI.of (fun q j hq => f_X12_joins h1 q j (by unfold T_X12_joins; omega)) hv
  refine f_ite hf (fun hf => ?_) (fun hf => ?_)
  · exact k_X12_goesOn_b372 hf hv
  · exact k_X12_goesOn_b372 hf hv
theorem k_X12_goesOn_b327 {kc : Bool} {F : Nat}  {r : Int} {σ' : mMem}   {x1 : Int} {σ : mMem} (hf : g_X12_goesOn_b327 F x1 σ = some (r, σ')) (hv : KI kc σ) : KI kc σ' := by
  unfold g_X12_goesOn_b327 at hf
  refine f_ite hf (fun hf => ?_) (fun hf => ?_)
  · refine f_mob hf (fun r1264 σ1265 h1 hf => ?_)
    have hv := KI.of (fun q j hq => f_X12_isWord h1 q j (by unfold T_X12_isWord; exact id)) hv
    refine f_ite hf (fun hf => ?_) (fun hf => ?_)
    · exact k_X12_goesOn_b356 hf hv
    · exact k_X12_goesOn_b356 hf hv
  · refine f_gd hf (fun hf => ?_)
    cases hf
    exact hv
theorem k_X12_goesOn_b309 {kc : Bool} {F : Nat}  {r : Int} {σ' : mMem}   {x1 : Int} {σ : mMem} (hf : g_X12_goesOn_b309 F x1 σ = some (r, σ')) (hv : KI kc σ) : KI kc σ' := by
  unfold g_X12_goesOn_b309 at hf
  refine f_gd hf (fun hf => ?_)
  refine f_ite hf (fun hf => ?_) (fun hf => ?_)
  · exact k_X12_goesOn_b327 hf hv
  · refine f_mob hf (fun r849 σ850 h1 hf => ?_)
    have hv := k_X12_blame (by decide) h1 hv
    exact k_X12_goesOn_b327 hf hv
theorem k_X12_goesOn_b285 {kc : Bool} {F : Nat}  {r : Int} {σ' : mMem}   {x1 x2 x3 : Int} {σ : mMem} (hf : g_X12_goesOn_b285 F x1 x2 x3 σ = some (r, σ')) (hv : KI kc σ) : KI kc σ' := by
  unfold g_X12_goesOn_b285 at hf
  refine f_ite hf (fun hf => ?_) (fun hf => ?_)
  · exact k_X12_goesOn_b400 hf hv
  · refine f_mob hf (fun r327 σ328 h1 hf => ?_)
    have hv := KI.of (fun q j hq => f_X12_isWord h1 q j (by unfold T_X12_isWord; exact id)) hv
    refine f_ite hf (fun hf => ?_) (fun hf => ?_)
    · exact k_X12_goesOn_b309 hf hv
    · refine f_mob hf (fun r329 σ330 h1 hf => ?_)
      have hv := KI.of (fun q j hq => f_X12_isWord h1 q j (by unfold T_X12_isWord; exact id)) hv
      refine f_ite hf (fun hf => ?_) (fun hf => ?_)
      · exact k_X12_goesOn_b400 hf hv
      · exact k_X12_goesOn_b309 hf hv
theorem k_X12_goesOn_b264 {kc : Bool} {F : Nat}  {r : Int} {σ' : mMem}   {x1 t0 : Int} {σ : mMem} (hf : g_X12_goesOn_b264 F x1 t0 σ = some (r, σ')) (hv : KI kc σ) : KI kc σ' := by
  unfold g_X12_goesOn_b264 at hf
  refine f_mob hf (fun r951 σ952 h1 hf => ?_)
  have hv := KI.of (fun q j hq => f_X12_holdsBack h1 q j (by unfold T_X12_holdsBack; omega)) hv
  refine f_gd hf (fun hf => ?_)
  refine fk_mem hf (KI.up hv (by omega)) (fun σ953 hv hf => ?_)
  refine f_mob hf (fun r954 σ955 h1 hf => ?_)
  have hv := KI.of (fun q j hq => f_X12_ahead h1 q j (by unfold T_X12_ahead; omega)) hv
  refine f_gd hf (fun hf => ?_)
  refine fk_mem hf (KI.up hv (by omega)) (fun σ956 hv hf => ?_)
  refine f_gd hf (fun hf => ?_)
  cases hf
  exact hv
theorem k_X12_goesOn_b228 {kc : Bool} {F : Nat}  {r : Int} {σ' : mMem}   {x1 : Int} {σ : mMem} (hf : g_X12_goesOn_b228 F x1 σ = some (r, σ')) (hv : KI kc σ) : KI kc σ' := by
  unfold g_X12_goesOn_b228 at hf
  refine f_mob hf (fun r431 σ432 h1 hf => ?_)
  have hv := KI.of (fun q j hq => f_X12_joins h1 q j (by unfold T_X12_joins; omega)) hv
  refine f_mob hf (fun r433 σ434 h1 hf => ?_)
  have hv := KI.of (fun q j hq => f_X12_isSign h1 q j (by unfold T_X12_isSign; exact id)) hv
  refine f_ite hf (fun hf => ?_) (fun hf => ?_)
  · refine f_mob hf (fun r435 σ436 h1 hf => ?_)
    have hv := KI.of (fun q j hq => f_X12_isSign h1 q j (by unfold T_X12_isSign; exact id)) hv
    refine f_ite hf (fun hf => ?_) (fun hf => ?_)
    · exact k_X12_goesOn_b264 hf hv
    · exact k_X12_goesOn_b264 hf hv
  · exact k_X12_goesOn_b264 hf hv
theorem k_X12_goesOn_b188 {kc : Bool} {F : Nat}  {r : Int} {σ' : mMem}   {x1 x2 x3 : Int} {σ : mMem} (hf : g_X12_goesOn_b188 F x1 x2 x3 σ = some (r, σ')) (hv : KI kc σ) : KI kc σ' := by
  unfold g_X12_goesOn_b188 at hf
  refine f_ite hf (fun hf => ?_) (fun hf => ?_)
  · exact k_X12_goesOn_b285 hf hv
  · refine f_gd hf (fun hf => ?_)
    refine f_ite hf (fun hf => ?_) (fun hf => ?_)
    · exact k_X12_goesOn_b285 hf hv
    · refine f_mob hf (fun r117 σ118 h1 hf => ?_)
      have hv := KI.of (fun q j hq => f_X12_isSign h1 q j (by unfold T_X12_isSign; exact id)) hv
      refine f_ite hf (fun hf => ?_) (fun hf => ?_)
      · exact k_X12_goesOn_b228 hf hv
      · refine f_mob hf (fun r119 σ120 h1 hf => ?_)
        have hv := KI.of (fun q j hq => f_X12_isSign h1 q j (by unfold T_X12_isSign; exact id)) hv
        refine f_ite hf (fun hf => ?_) (fun hf => ?_)
        · exact k_X12_goesOn_b228 hf hv
        · refine f_mob hf (fun r121 σ122 h1 hf => ?_)
          have hv := KI.of (fun q j hq => f_X12_isSign h1 q j (by unfold T_X12_isSign; exact id)) hv
          refine f_ite hf (fun hf => ?_) (fun hf => ?_)
          · exact k_X12_goesOn_b285 hf hv
          · exact k_X12_goesOn_b228 hf hv
theorem k_X12_goesOn_b174 {kc : Bool} {F : Nat}  {r : Int} {σ' : mMem}   {t0 : Int} {σ : mMem} (hf : g_X12_goesOn_b174 F t0 σ = some (r, σ')) (hv : KI kc σ) : KI kc σ' := by
  unfold g_X12_goesOn_b174 at hf
  refine f_mob hf (fun r1057 σ1058 h1 hf => ?_)
  have hv := KI.of (fun q j hq => f_X12_holdsBack h1 q j (by unfold T_X12_holdsBack; omega)) hv
  refine f_mob hf (fun r1059 σ1060 h1 hf => ?_)
  have hv := KI.of (fun q j hq => f_X12_ahead h1 q j (by unfold T_X12_ahead; omega)) hv
  refine f_gd hf (fun hf => ?_)
  refine fk_mem hf (KI.up hv (by omega)) (fun σ1061 hv hf => ?_)
  refine f_gd hf (fun hf => ?_)
  cases hf
  exact hv
theorem k_X12_goesOn_b112 {kc : Bool} {F : Nat}  {r : Int} {σ' : mMem}   {t0 : Int} {σ : mMem} (hf : g_X12_goesOn_b112 F t0 σ = some (r, σ')) (hv : KI kc σ) : KI kc σ' := by
  unfold g_X12_goesOn_b112 at hf
  refine f_mob hf (fun r537 σ538 h1 hf => ?_)
  have hv := KI.of (fun q j hq => f_X12_joins h1 q j (by unfold T_X12_joins; omega)) hv
  refine f_mob hf (fun r539 σ540 h1 hf => ?_)
  have hv := KI.of (fun q j hq => f_X12_isSign h1 q j (by unfold T_X12_isSign; exact id)) hv
  refine f_ite hf (fun hf => ?_) (fun hf => ?_)
  · refine f_mob hf (fun r541 σ542 h1 hf => ?_)
    have hv := KI.of (fun q j hq => f_X12_isSign h1 q j (by unfold T_X12_isSign; exact id)) hv
    refine f_ite hf (fun hf => ?_) (fun hf => ?_)
    · refine f_mob hf (fun r543 σ544 h1 hf => ?_)
      have hv := KI.of (fun q j hq => f_X12_isSign h1 q j (by unfold T_X12_isSign; exact id)) hv
      refine f_ite hf (fun hf => ?_) (fun hf => ?_)
      · refine f_mob hf (fun r545 σ546 h1 hf => ?_)
        have hv := KI.of (fun q j hq => f_X12_isSign h1 q j (by unfold T_X12_isSign; exact id)) hv
        refine f_ite hf (fun hf => ?_) (fun hf => ?_)
        · exact k_X12_goesOn_b174 hf hv
        · exact k_X12_goesOn_b174 hf hv
      · exact k_X12_goesOn_b174 hf hv
    · exact k_X12_goesOn_b174 hf hv
  · exact k_X12_goesOn_b174 hf hv
theorem k_X12_goesOn_b106 {kc : Bool} {F : Nat}  {r : Int} {σ' : mMem}   {σ : mMem} (hf : g_X12_goesOn_b106 F  σ = some (r, σ')) (hv : KI kc σ) : KI kc σ' := by
  unfold g_X12_goesOn_b106 at hf
  exact k_X12_goesOn_b112 hf hv
theorem k_X12_goesOn_b87 {kc : Bool} {F : Nat}  {r : Int} {σ' : mMem}   {σ : mMem} (hf : g_X12_goesOn_b87 F  σ = some (r, σ')) (hv : KI kc σ) : KI kc σ' := by
  unfold g_X12_goesOn_b87 at hf
  refine f_mob hf (fun r223 σ224 h1 hf => ?_)
  have hv := KI.of (fun q j hq => f_X12_isSign h1 q j (by unfold T_X12_isSign; exact id)) hv
  refine f_ite hf (fun hf => ?_) (fun hf => ?_)
  · exact k_X12_goesOn_b106 hf hv
  · refine f_mob hf (fun r225 σ226 h1 hf => ?_)
    have hv := KI.of (fun q j hq => f_X12_isSign h1 q j (by unfold T_X12_isSign; exact id)) hv
    refine f_ite hf (fun hf => ?_) (fun hf => ?_)
    · exact k_X12_goesOn_b112 hf hv
    · exact k_X12_goesOn_b106 hf hv
theorem k_X12_goesOn {kc : Bool} {F : Nat}  {r : Int} {σ' : mMem} {σ : mMem} (hf : g_X12_goesOn F σ = some (r, σ')) (hv : KI kc σ) : KI kc σ' := by
  unfold g_X12_goesOn at hf
  refine f_mob hf (fun r1 σ2 h1 hf => ?_)
  have hv := k_X12_lex h1 hv
  refine f_ite hf (fun hf => ?_) (fun hf => ?_)
  · refine f_let hf (fun y3 hf => ?_)
    refine f_gd hf (fun hf => ?_)
    refine f_let hf (fun y4 hf => ?_)
    refine f_mob hf (fun r5 σ6 h1 hf => ?_)
    have hv := KI.of (fun q j hq => f_X12_isTest h1 q j (by unfold T_X12_isTest; exact id)) hv
    refine f_gd hf (fun hf => ?_)
    refine f_ite hf (fun hf => ?_) (fun hf => ?_)
    · exact k_X12_goesOn_b188 hf hv
    · refine f_mob hf (fun r7 σ8 h1 hf => ?_)
      have hv := KI.of (fun q j hq => f_X12_isSign h1 q j (by unfold T_X12_isSign; exact id)) hv
      refine f_ite hf (fun hf => ?_) (fun hf => ?_)
      · exact k_X12_goesOn_b87 hf hv
      · refine f_mob hf (fun r9 σ10 h1 hf => ?_)
        have hv := KI.of (fun q j hq => f_X12_isSign h1 q j (by unfold T_X12_isSign; exact id)) hv
        refine f_ite hf (fun hf => ?_) (fun hf => ?_)
        · exact k_X12_goesOn_b87 hf hv
        · refine f_mob hf (fun r11 σ12 h1 hf => ?_)
          have hv := KI.of (fun q j hq => f_X12_isSign h1 q j (by unfold T_X12_isSign; exact id)) hv
          refine f_ite hf (fun hf => ?_) (fun hf => ?_)
          · exact k_X12_goesOn_b87 hf hv
          · refine f_mob hf (fun r13 σ14 h1 hf => ?_)
            have hv := KI.of (fun q j hq => f_X12_isSign h1 q j (by unfold T_X12_isSign; exact id)) hv
            refine f_ite hf (fun hf => ?_) (fun hf => ?_)
            · exact k_X12_goesOn_b87 hf hv
            · refine f_mob hf (fun r15 σ16 h1 hf => ?_)
              have hv := KI.of (fun q j hq => f_X12_isSign h1 q j (by unfold T_X12_isSign; exact id)) hv
              refine f_ite hf (fun hf => ?_) (fun hf => ?_)
              · exact k_X12_goesOn_b188 hf hv
              · exact k_X12_goesOn_b87 hf hv
  · refine f_gd hf (fun hf => ?_)
    cases hf
    exact hv
theorem k_X12_reads_b86 {kc : Bool} {F : Nat}  {r : Int} {σ' : mMem} {k43 : Int → mMem → mRs} (hk43 : ∀ (x2 : Int) (σ : mMem), k43 x2 σ = some (r, σ') → KI kc σ → KI kc σ') {t0 : Int} {σ : mMem} (hf : g_X12_reads_b86 F k43 t0 σ = some (r, σ')) (hv : KI kc σ) : KI kc σ' := by
  unfold g_X12_reads_b86 at hf
  exact hk43 _ _ hf hv
theorem k_X12_reads_b85 {kc : Bool} {F : Nat}  {r : Int} {σ' : mMem} {k43 : Int → mMem → mRs} (hk43 : ∀ (x2 : Int) (σ : mMem), k43 x2 σ = some (r, σ') → KI kc σ → KI kc σ') {σ : mMem} (hf : g_X12_reads_b85 F k43  σ = some (r, σ')) (hv : KI kc σ) : KI kc σ' := by
  unfold g_X12_reads_b85 at hf
  exact k_X12_reads_b86 hk43 hf hv
theorem k_X12_reads_b70 {kc : Bool} {F : Nat}  {r : Int} {σ' : mMem} {k43 : Int → mMem → mRs} (hk43 : ∀ (x2 : Int) (σ : mMem), k43 x2 σ = some (r, σ') → KI kc σ → KI kc σ') {x2 : Int} {σ : mMem} (hf : g_X12_reads_b70 F k43 x2 σ = some (r, σ')) (hv : KI kc σ) : KI kc σ' := by
  unfold g_X12_reads_b70 at hf
  refine f_ite hf (fun hf => ?_) (fun hf => ?_)
  · exact k_X12_reads_b85 hk43 hf hv
  · refine f_ite hf (fun hf => ?_) (fun hf => ?_)
    · exact k_X12_reads_b85 hk43 hf hv
    · exact k_X12_reads_b86 hk43 hf hv
theorem k_X12_reads_h43 {kc : Bool} {F : Nat}  {r : Int} {σ' : mMem}   (n : Nat) : ∀ {x2 : Int} {σ : mMem} (_ : g_X12_reads_h43 F n x2 σ = some (r, σ')), KI kc σ → KI kc σ' := by
  induction n with
  | zero =>
    intro x2 σ hf hv
    unfold g_X12_reads_h43 at hf
    cases hf
  | succ n ih =>
    have hk43 : ∀ (x2 : Int) (σ : mMem), g_X12_reads_h43 F n x2 σ = some (r, σ') → KI kc σ → KI kc σ' := fun x2 σ hf => ih hf
    intro x2 σ hf hv
    unfold g_X12_reads_h43 at hf
    refine f_ite hf (fun hf => ?_) (fun hf => ?_)
    · cases hf
      exact hv
    · refine f_ite hf (fun hf => ?_) (fun hf => ?_)
      · refine f_mob hf (fun r207 σ208 h1 hf => ?_)
        have hv := k_X12_goesOn h1 hv
        exact k_X12_reads_b70 hk43 hf hv
      · refine f_mob hf (fun r209 σ210 h1 hf => ?_)
        have hv := k_X12_operand h1 hv
        refine f_gd hf (fun hf => ?_)
        refine fk_mem hf (KI.up hv (by omega)) (fun σ211 hv hf => ?_)
        exact k_X12_reads_b70 hk43 hf hv
theorem k_X12_reads_b38 {kc : Bool} {F : Nat}  {r : Int} {σ' : mMem}   {t0 : Int} {σ : mMem} (hf : g_X12_reads_b38 F t0 σ = some (r, σ')) (hv : KI kc σ) : KI kc σ' := by
  unfold g_X12_reads_b38 at hf
  refine f_mob hf (fun r105 σ106 h1 hf => ?_)
  have hv := KI.of (fun q j hq => f_X12_pushes h1 q j (by unfold T_X12_pushes; omega)) hv
  exact k_X12_reads_h43 _ hf hv
theorem k_X12_reads {kc : Bool} {F : Nat}  {r : Int} {σ' : mMem} {x1 : Int} {σ : mMem} (hf : g_X12_reads F x1 σ = some (r, σ')) (hv : KI kc σ) : KI kc σ' := by
  unfold g_X12_reads at hf
  refine f_ite hf (fun hf => ?_) (fun hf => ?_)
  · refine fk_mem hf (KI.up hv (by omega)) (fun σ1 hv hf => ?_)
    refine fk_mem hf (KI.up hv (by omega)) (fun σ2 hv hf => ?_)
    refine fk_mem hf (KI.up hv (by omega)) (fun σ3 hv hf => ?_)
    refine f_gd hf (fun hf => ?_)
    refine fk_mem hf (KI.up hv (by omega)) (fun σ4 hv hf => ?_)
    refine f_ite hf (fun hf => ?_) (fun hf => ?_)
    · exact k_X12_reads_b38 hf hv
    · exact k_X12_reads_b38 hf hv
  · cases hf
    exact hv
theorem k_X12_counts_b44 {kc : Bool} {F : Nat}  {r : Int} {σ' : mMem}   {t0 : Int} {σ : mMem} (hf : g_X12_counts_b44 F t0 σ = some (r, σ')) (hv : KI kc σ) : KI kc σ' := by
  unfold g_X12_counts_b44 at hf
  refine f_gd hf (fun hf => ?_)
  cases hf
  exact hv
theorem k_X12_counts_b32 {kc : Bool} {F : Nat}  {r : Int} {σ' : mMem}   {σ : mMem} (hf : g_X12_counts_b32 F  σ = some (r, σ')) (hv : KI kc σ) : KI kc σ' := by
  unfold g_X12_counts_b32 at hf
  refine f_ite hf (fun hf => ?_) (fun hf => ?_)
  · exact k_X12_counts_b44 hf hv
  · exact k_X12_counts_b44 hf hv
theorem k_X12_counts_b21 {kc : Bool} {F : Nat}  {r : Int} {σ' : mMem}   {σ : mMem} (hf : g_X12_counts_b21 F  σ = some (r, σ')) (hv : KI kc σ) : KI kc σ' := by
  unfold g_X12_counts_b21 at hf
  refine f_ite hf (fun hf => ?_) (fun hf => ?_)
  · exact k_X12_counts_b32 hf hv
  · refine f_mob hf (fun r103 σ104 h1 hf => ?_)
    have hv := KI.of (fun q j hq => f_X12_ahead h1 q j (by unfold T_X12_ahead; omega)) hv
    exact k_X12_counts_b32 hf hv
theorem k_X12_counts {kc : Bool} {F : Nat}  {r : Int} {σ' : mMem} {x1 : Int} {σ : mMem} (hf : g_X12_counts F x1 σ = some (r, σ')) (hv : KI kc σ) : KI kc σ' := by
  unfold g_X12_counts at hf
  refine f_ite hf (fun hf => ?_) (fun hf => ?_)
  · exact k_X12_counts_b21 hf hv
  · refine f_ite hf (fun hf => ?_) (fun hf => ?_)
    · exact k_X12_counts_b21 hf hv
    · refine f_mob hf (fun r1 σ2 h1 hf => ?_)
      have hv := k_X12_blame (by decide) h1 hv
      exact k_X12_counts_b21 hf hv
theorem k_X12_must__b40 {kc : Bool} {F : Nat}  {r : Int} {σ' : mMem}   {σ : mMem} (hf : g_X12_must__b40 F  σ = some (r, σ')) (hv : KI kc σ) : KI kc σ' := by
  unfold g_X12_must__b40 at hf
  cases hf
  exact hv
theorem k_X12_must__b29 {kc : Bool} {F : Nat}  {r : Int} {σ' : mMem}   {σ : mMem} (hf : g_X12_must__b29 F  σ = some (r, σ')) (hv : KI kc σ) : KI kc σ' := by
  unfold g_X12_must__b29 at hf
  refine f_ite hf (fun hf => ?_) (fun hf => ?_)
  · exact k_X12_must__b40 hf hv
  · refine f_mob hf (fun r107 σ108 h1 hf => ?_)
    have hv := KI.of (fun q j hq => f_X12_ahead h1 q j (by unfold T_X12_ahead; omega)) hv
    exact k_X12_must__b40 hf hv
theorem k_X12_must_ {kc : Bool} {F : Nat}  {r : Int} {σ' : mMem} {x1 : Int} {σ : mMem} (hf : g_X12_must_ F x1 σ = some (r, σ')) (hv : KI kc σ) : KI kc σ' := by
  unfold g_X12_must_ at hf
  refine f_mob hf (fun r1 σ2 h1 hf => ?_)
  have hv := k_X12_lex h1 hv
  refine f_ite hf (fun hf => ?_) (fun hf => ?_)
  · refine f_mob hf (fun r3 σ4 h1 hf => ?_)
    have hv := KI.of (fun q j hq => f_X12_isWord h1 q j (by unfold T_X12_isWord; exact id)) hv
    refine f_ite hf (fun hf => ?_) (fun hf => ?_)
    · exact k_X12_must__b29 hf hv
    · refine f_mob hf (fun r5 σ6 h1 hf => ?_)
      have hv := k_X12_blame (by decide) h1 hv
      exact k_X12_must__b29 hf hv
  · cases hf
    exact hv
theorem k_X12_fresh_b85 {kc : Bool} {F : Nat}  {r : Int} {σ' : mMem}   {x1 : Int} {σ : mMem} (hf : g_X12_fresh_b85 F x1 σ = some (r, σ')) (hv : KI kc σ) : KI kc σ' := by
  unfold g_X12_fresh_b85 at hf
  cases hf
  exact hv
theorem k_X12_fresh_b69 {kc : Bool} {F : Nat}  {r : Int} {σ' : mMem}   {σ : mMem} (hf : g_X12_fresh_b69 F  σ = some (r, σ')) (hv : KI kc σ) : KI kc σ' := by
  unfold g_X12_fresh_b69 at hf
  refine f_let hf (fun y311 hf => ?_)
  refine f_ite hf (fun hf => ?_) (fun hf => ?_)
  · exact k_X12_fresh_b85 hf hv
  · refine f_mob hf (fun r312 σ313 h1 hf => ?_)
    have hv := KI.of (fun q j hq => f_X12_ahead h1 q j (by unfold T_X12_ahead; omega)) hv
    exact k_X12_fresh_b85 hf hv
theorem k_X12_fresh_b41 {kc : Bool} {F : Nat}  {r : Int} {σ' : mMem}   {σ : mMem} (hf : g_X12_fresh_b41 F  σ = some (r, σ')) (hv : KI kc σ) : KI kc σ' := by
  unfold g_X12_fresh_b41 at hf
  refine f_ite hf (fun hf => ?_) (fun hf => ?_)
  · exact k_X12_fresh_b69 hf hv
  · refine f_mob hf (fun r105 σ106 h1 hf => ?_)
    have hv := KI.of (fun q j hq => f_X12_named h1 q j (by unfold T_X12_named; exact id)) hv
    refine f_ite hf (fun hf => ?_) (fun hf => ?_)
    · exact k_X12_fresh_b69 hf hv
    · refine f_mob hf (fun r107 σ108 h1 hf => ?_)
      have hv := k_X12_blame (by decide) h1 hv
      exact k_X12_fresh_b69 hf hv
theorem k_X12_fresh_b32 {kc : Bool} {F : Nat}  {r : Int} {σ' : mMem}   {σ : mMem} (hf : g_X12_fresh_b32 F  σ = some (r, σ')) (hv : KI kc σ) : KI kc σ' := by
  unfold g_X12_fresh_b32 at hf
  refine f_mob hf (fun r209 σ210 h1 hf => ?_)
  have hv := k_X12_blame (by decide) h1 hv
  exact k_X12_fresh_b41 hf hv
theorem k_X12_fresh {kc : Bool} {F : Nat}  {r : Int} {σ' : mMem} {σ : mMem} (hf : g_X12_fresh F σ = some (r, σ')) (hv : KI kc σ) : KI kc σ' := by
  unfold g_X12_fresh at hf
  refine f_mob hf (fun r1 σ2 h1 hf => ?_)
  have hv := k_X12_lex h1 hv
  refine f_ite hf (fun hf => ?_) (fun hf => ?_)
  · refine f_ite hf (fun hf => ?_) (fun hf => ?_)
    · exact k_X12_fresh_b32 hf hv
    · refine f_mob hf (fun r3 σ4 h1 hf => ?_)
      have hv := KI.of (fun q j hq => f_X12_isOwn h1 q j (by unfold T_X12_isOwn; exact id)) hv
      refine f_ite hf (fun hf => ?_) (fun hf => ?_)
      · exact k_X12_fresh_b41 hf hv
      · exact k_X12_fresh_b32 hf hv
  · cases hf
    exact hv
theorem k_X12_known_b105 {kc : Bool} {F : Nat}  {r : Int} {σ' : mMem}   {t0 : Int} {σ : mMem} (hf : g_X12_known_b105 F t0 σ = some (r, σ')) (hv : KI kc σ) : KI kc σ' := by
  unfold g_X12_known_b105 at hf
  cases hf
  exact hv
theorem k_X12_known_b93 {kc : Bool} {F : Nat}  {r : Int} {σ' : mMem}   {x1 : Int} {σ : mMem} (hf : g_X12_known_b93 F x1 σ = some (r, σ')) (hv : KI kc σ) : KI kc σ' := by
  unfold g_X12_known_b93 at hf
  refine f_ite hf (fun hf => ?_) (fun hf => ?_)
  · exact k_X12_known_b105 hf hv
  · exact k_X12_known_b105 hf hv
theorem k_X12_known_b82 {kc : Bool} {F : Nat}  {r : Int} {σ' : mMem}   {x1 : Int} {σ : mMem} (hf : g_X12_known_b82 F x1 σ = some (r, σ')) (hv : KI kc σ) : KI kc σ' := by
  unfold g_X12_known_b82 at hf
  refine f_ite hf (fun hf => ?_) (fun hf => ?_)
  · exact k_X12_known_b93 hf hv
  · refine f_mob hf (fun r411 σ412 h1 hf => ?_)
    have hv := KI.of (fun q j hq => f_X12_ahead h1 q j (by unfold T_X12_ahead; omega)) hv
    exact k_X12_known_b93 hf hv
theorem k_X12_known_b60 {kc : Bool} {F : Nat}  {r : Int} {σ' : mMem}   {t0 : Int} {σ : mMem} (hf : g_X12_known_b60 F t0 σ = some (r, σ')) (hv : KI kc σ) : KI kc σ' := by
  unfold g_X12_known_b60 at hf
  refine f_ite hf (fun hf => ?_) (fun hf => ?_)
  · exact k_X12_known_b82 hf hv
  · refine f_ite hf (fun hf => ?_) (fun hf => ?_)
    · exact k_X12_known_b82 hf hv
    · refine f_mob hf (fun r309 σ310 h1 hf => ?_)
      have hv := k_X12_blame (by decide) h1 hv
      exact k_X12_known_b82 hf hv
theorem k_X12_known_b41 {kc : Bool} {F : Nat}  {r : Int} {σ' : mMem}   {σ : mMem} (hf : g_X12_known_b41 F  σ = some (r, σ')) (hv : KI kc σ) : KI kc σ' := by
  unfold g_X12_known_b41 at hf
  refine f_ite hf (fun hf => ?_) (fun hf => ?_)
  · refine f_mob hf (fun r105 σ106 h1 hf => ?_)
    have hv := KI.of (fun q j hq => f_X12_named h1 q j (by unfold T_X12_named; exact id)) hv
    exact k_X12_known_b60 hf hv
  · exact k_X12_known_b60 hf hv
theorem k_X12_known_b32 {kc : Bool} {F : Nat}  {r : Int} {σ' : mMem}   {σ : mMem} (hf : g_X12_known_b32 F  σ = some (r, σ')) (hv : KI kc σ) : KI kc σ' := by
  unfold g_X12_known_b32 at hf
  refine f_mob hf (fun r207 σ208 h1 hf => ?_)
  have hv := k_X12_blame (by decide) h1 hv
  exact k_X12_known_b41 hf hv
theorem k_X12_known {kc : Bool} {F : Nat}  {r : Int} {σ' : mMem} {σ : mMem} (hf : g_X12_known F σ = some (r, σ')) (hv : KI kc σ) : KI kc σ' := by
  unfold g_X12_known at hf
  refine f_mob hf (fun r1 σ2 h1 hf => ?_)
  have hv := k_X12_lex h1 hv
  refine f_ite hf (fun hf => ?_) (fun hf => ?_)
  · refine f_ite hf (fun hf => ?_) (fun hf => ?_)
    · exact k_X12_known_b32 hf hv
    · refine f_mob hf (fun r3 σ4 h1 hf => ?_)
      have hv := KI.of (fun q j hq => f_X12_isOwn h1 q j (by unfold T_X12_isOwn; exact id)) hv
      refine f_ite hf (fun hf => ?_) (fun hf => ?_)
      · exact k_X12_known_b41 hf hv
      · exact k_X12_known_b32 hf hv
  · cases hf
    exact hv
theorem k_X12_begins_h48 {kc : Bool} {F : Nat}  {r : Int} {σ' : mMem}   (n : Nat) : ∀ {x1 : Int} {σ : mMem} (_ : g_X12_begins_h48 F n x1 σ = some (r, σ')), KI kc σ → KI kc σ' := by
  induction n with
  | zero =>
    intro x1 σ hf hv
    unfold g_X12_begins_h48 at hf
    cases hf
  | succ n ih =>
    have hk48 : ∀ (x1 : Int) (σ : mMem), g_X12_begins_h48 F n x1 σ = some (r, σ') → KI kc σ → KI kc σ' := fun x1 σ hf => ih hf
    intro x1 σ hf hv
    unfold g_X12_begins_h48 at hf
    refine f_ite hf (fun hf => ?_) (fun hf => ?_)
    · cases hf
      exact hv
    · refine f_gd hf (fun hf => ?_)
      refine fk_mem hf (KI.up hv (by omega)) (fun σ111 hv hf => ?_)
      exact hk48 _ _ hf hv
theorem k_X12_begins {kc : Bool} {F : Nat}  {r : Int} {σ' : mMem} {σ : mMem} (hf : g_X12_begins F σ = some (r, σ')) (hv : KI kc σ) : KI kc σ' := by
  unfold g_X12_begins at hf
  refine f_mob hf (fun r1 σ2 h1 hf => ?_)
  have hv := k_X12_must_ h1 hv
  refine f_mob hf (fun r3 σ4 h1 hf => ?_)
  have hv := k_X12_number h1 hv
  refine f_gd hf (fun hf => ?_)
  refine fk_mem hf (KI.up hv (by omega)) (fun σ5 hv hf => ?_)
  refine f_mob hf (fun r6 σ7 h1 hf => ?_)
  have hv := k_X12_must_ h1 hv
  refine f_mob hf (fun r8 σ9 h1 hf => ?_)
  have hv := k_X12_number h1 hv
  refine f_gd hf (fun hf => ?_)
  refine fk_mem hf (KI.up hv (by omega)) (fun σ10 hv hf => ?_)
  exact k_X12_begins_h48 _ hf hv
theorem k_X12_greying_b78 {kc : Bool} {F : Nat}  {r : Int} {σ' : mMem}   {σ : mMem} (hf : g_X12_greying_b78 F  σ = some (r, σ')) (hv : KI kc σ) : KI kc σ' := by
  unfold g_X12_greying_b78 at hf
  cases hf
  exact hv
theorem k_X12_greying {kc : Bool} {F : Nat}  {r : Int} {σ' : mMem} {σ : mMem} (hf : g_X12_greying F σ = some (r, σ')) (hv : KI kc σ) : KI kc σ' := by
  unfold g_X12_greying at hf
  refine f_mob hf (fun r1 σ2 h1 hf => ?_)
  have hv := k_X12_counts h1 hv
  refine f_ite hf (fun hf => ?_) (fun hf => ?_)
  · refine f_gd hf (fun hf => ?_)
    refine f_mob hf (fun r3 σ4 h1 hf => ?_)
    have hv := k_X12_number h1 hv
    refine f_gd hf (fun hf => ?_)
    refine f_mob hf (fun r5 σ6 h1 hf => ?_)
    have hv := k_X12_number h1 hv
    refine f_mob hf (fun r7 σ8 h1 hf => ?_)
    have hv := k_X12_number h1 hv
    refine f_ite hf (fun hf => ?_) (fun hf => ?_)
    · exact k_X12_greying_b78 hf hv
    · refine f_gd hf (fun hf => ?_)
      refine fk_mem hf (KI.up hv (by omega)) (fun σ9 hv hf => ?_)
      exact k_X12_greying_b78 hf hv
  · cases hf
    exact hv
theorem k_X12_boxing_b240 {kc : Bool} {F : Nat}  {r : Int} {σ' : mMem}   {σ : mMem} (hf : g_X12_boxing_b240 F  σ = some (r, σ')) (hv : KI kc σ) : KI kc σ' := by
  unfold g_X12_boxing_b240 at hf
  cases hf
  exact hv
theorem k_X12_boxing_b167 {kc : Bool} {F : Nat}  {r : Int} {σ' : mMem}   {x1 x2 x4 : Int} {σ : mMem} (hf : g_X12_boxing_b167 F x1 x2 x4 σ = some (r, σ')) (hv : KI kc σ) : KI kc σ' := by
  unfold g_X12_boxing_b167 at hf
  refine f_gd hf (fun hf => ?_)
  refine fk_mem hf (KI.up hv (by omega)) (fun σ318 hv hf => ?_)
  refine f_mob hf (fun r319 σ320 h1 hf => ?_)
  have hv := k_X12_must_ h1 hv
  refine f_mob hf (fun r321 σ322 h1 hf => ?_)
  have hv := k_X12_number h1 hv
  refine f_gd hf (fun hf => ?_)
  refine fk_mem hf (KI.up hv (by omega)) (fun σ323 hv hf => ?_)
  refine f_gd hf (fun hf => ?_)
  refine fk_mem hf (KI.up hv (by omega)) (fun σ324 hv hf => ?_)
  refine f_gd hf (fun hf => ?_)
  refine fk_mem hf (KI.up hv (by omega)) (fun σ325 hv hf => ?_)
  refine f_gd hf (fun hf => ?_)
  refine fk_mem hf (KI.up hv (by omega)) (fun σ326 hv hf => ?_)
  refine f_ite hf (fun hf => ?_) (fun hf => ?_)
  · exact k_X12_boxing_b240 hf hv
  · refine f_gd hf (fun hf => ?_)
    refine f_gd hf (fun hf => ?_)
    refine fk_mem hf (KI.up hv (by omega)) (fun σ327 hv hf => ?_)
    exact k_X12_boxing_b240 hf hv
theorem k_X12_boxing_b161 {kc : Bool} {F : Nat}  {r : Int} {σ' : mMem} {k109 : Int → Int → Int → Int → Int → mMem → mRs} (hk109 : ∀ (x1 x2 x3 x4 x5 : Int) (σ : mMem), k109 x1 x2 x3 x4 x5 σ = some (r, σ') → KI kc σ → KI kc σ') {x1 x2 x3 x4 x5 : Int} {σ : mMem} (hf : g_X12_boxing_b161 F k109 x1 x2 x3 x4 x5 σ = some (r, σ')) (hv : KI kc σ) : KI kc σ' := by
  unfold g_X12_boxing_b161 at hf
  exact hk109 _ _ _ _ _ _ hf hv
theorem k_X12_boxing_h109 {kc : Bool} {F : Nat}  {r : Int} {σ' : mMem}   (n : Nat) : ∀ {x1 x2 x3 x4 x5 : Int} {σ : mMem} (_ : g_X12_boxing_h109 F n x1 x2 x3 x4 x5 σ = some (r, σ')), KI kc σ → KI kc σ' := by
  induction n with
  | zero =>
    intro x1 x2 x3 x4 x5 σ hf hv
    unfold g_X12_boxing_h109 at hf
    cases hf
  | succ n ih =>
    have hk109 : ∀ (x1 x2 x3 x4 x5 : Int) (σ : mMem), g_X12_boxing_h109 F n x1 x2 x3 x4 x5 σ = some (r, σ') → KI kc σ → KI kc σ' := fun x1 x2 x3 x4 x5 σ hf => ih hf
    intro x1 x2 x3 x4 x5 σ hf hv
    unfold g_X12_boxing_h109 at hf
    refine f_gd hf (fun hf => ?_)
    refine f_ite hf (fun hf => ?_) (fun hf => ?_)
    · exact k_X12_boxing_b167 hf hv
    · refine f_ite hf (fun hf => ?_) (fun hf => ?_)
      · exact k_X12_boxing_b167 hf hv
      · refine f_gd hf (fun hf => ?_)
        refine f_ite hf (fun hf => ?_) (fun hf => ?_)
        · exact k_X12_boxing_b161 hk109 hf hv
        · refine f_mob hf (fun r216 σ217 h1 hf => ?_)
          have hv := k_X12_blame (by decide) h1 hv
          exact k_X12_boxing_b161 hk109 hf hv
theorem k_X12_boxing_b20 {kc : Bool} {F : Nat}  {r : Int} {σ' : mMem}   {t0 : Int} {σ : mMem} (hf : g_X12_boxing_b20 F t0 σ = some (r, σ')) (hv : KI kc σ) : KI kc σ' := by
  unfold g_X12_boxing_b20 at hf
  refine f_mob hf (fun r101 σ102 h1 hf => ?_)
  have hv := k_X12_counts h1 hv
  refine f_ite hf (fun hf => ?_) (fun hf => ?_)
  · refine f_gd hf (fun hf => ?_)
    refine f_let hf (fun y103 hf => ?_)
    refine f_mob hf (fun r104 σ105 h1 hf => ?_)
    have hv := k_X12_fresh h1 hv
    refine f_gd hf (fun hf => ?_)
    refine fk_mem hf (KI.up hv (by omega)) (fun σ106 hv hf => ?_)
    refine f_mob hf (fun r107 σ108 h1 hf => ?_)
    have hv := k_X12_must_ h1 hv
    refine f_gd hf (fun hf => ?_)
    refine f_mob hf (fun r109 σ110 h1 hf => ?_)
    have hv := k_X12_number h1 hv
    refine f_mob hf (fun r111 σ112 h1 hf => ?_)
    have hv := k_X12_lex h1 hv
    refine f_let hf (fun y113 hf => ?_)
    refine f_gd hf (fun hf => ?_)
    refine f_mob hf (fun r114 σ115 h1 hf => ?_)
    have hv := k_X12_number h1 hv
    exact k_X12_boxing_h109 _ hf hv
  · cases hf
    exact hv
theorem k_X12_boxing {kc : Bool} {F : Nat}  {r : Int} {σ' : mMem} {σ : mMem} (hf : g_X12_boxing F σ = some (r, σ')) (hv : KI kc σ) : KI kc σ' := by
  unfold g_X12_boxing at hf
  refine f_gd hf (fun hf => ?_)
  refine f_ite hf (fun hf => ?_) (fun hf => ?_)
  · exact k_X12_boxing_b20 hf hv
  · exact k_X12_boxing_b20 hf hv
theorem k_X12_eyeing {kc : Bool} {F : Nat}  {r : Int} {σ' : mMem} {σ : mMem} (hf : g_X12_eyeing F σ = some (r, σ')) (hv : KI kc σ) : KI kc σ' := by
  unfold g_X12_eyeing at hf
  refine f_mob hf (fun r1 σ2 h1 hf => ?_)
  have hv := k_X12_counts h1 hv
  refine f_ite hf (fun hf => ?_) (fun hf => ?_)
  · refine f_mob hf (fun r3 σ4 h1 hf => ?_)
    have hv := k_X12_known h1 hv
    refine f_let hf (fun y5 hf => ?_)
    refine f_mob hf (fun r6 σ7 h1 hf => ?_)
    have hv := k_X12_must_ h1 hv
    refine f_mob hf (fun r8 σ9 h1 hf => ?_)
    have hv := k_X12_number h1 hv
    refine f_mob hf (fun r10 σ11 h1 hf => ?_)
    have hv := k_X12_must_ h1 hv
    refine f_mob hf (fun r12 σ13 h1 hf => ?_)
    have hv := k_X12_number h1 hv
    refine f_ite hf (fun hf => ?_) (fun hf => ?_)
    · refine f_gd hf (fun hf => ?_)
      refine fk_mem hf (KI.up hv (by omega)) (fun σ14 hv hf => ?_)
      refine f_gd hf (fun hf => ?_)
      refine fk_mem hf (KI.up hv (by omega)) (fun σ15 hv hf => ?_)
      cases hf
      exact hv
    · cases hf
      exact hv
  · cases hf
    exact hv
theorem k_X12_biasing_b44 {kc : Bool} {F : Nat}  {r : Int} {σ' : mMem}   {σ : mMem} (hf : g_X12_biasing_b44 F  σ = some (r, σ')) (hv : KI kc σ) : KI kc σ' := by
  unfold g_X12_biasing_b44 at hf
  cases hf
  exact hv
theorem k_X12_biasing {kc : Bool} {F : Nat}  {r : Int} {σ' : mMem} {σ : mMem} (hf : g_X12_biasing F σ = some (r, σ')) (hv : KI kc σ) : KI kc σ' := by
  unfold g_X12_biasing at hf
  refine f_mob hf (fun r1 σ2 h1 hf => ?_)
  have hv := k_X12_counts h1 hv
  refine f_ite hf (fun hf => ?_) (fun hf => ?_)
  · refine f_mob hf (fun r3 σ4 h1 hf => ?_)
    have hv := k_X12_known h1 hv
    refine f_let hf (fun y5 hf => ?_)
    refine f_mob hf (fun r6 σ7 h1 hf => ?_)
    have hv := k_X12_number h1 hv
    refine f_ite hf (fun hf => ?_) (fun hf => ?_)
    · exact k_X12_biasing_b44 hf hv
    · refine f_gd hf (fun hf => ?_)
      refine fk_mem hf (KI.up hv (by omega)) (fun σ8 hv hf => ?_)
      exact k_X12_biasing_b44 hf hv
  · cases hf
    exact hv
theorem k_X12_reading_b67 {kc : Bool} {F : Nat}  {r : Int} {σ' : mMem}   {x2 t0 : Int} {σ : mMem} (hf : g_X12_reading_b67 F x2 t0 σ = some (r, σ')) (hv : KI kc σ) : KI kc σ' := by
  unfold g_X12_reading_b67 at hf
  refine f_mob hf (fun r306 σ307 h1 hf => ?_)
  have hv := k_X12_reads h1 hv
  refine f_gd hf (fun hf => ?_)
  refine fk_mem hf (KI.up hv (by omega)) (fun σ308 hv hf => ?_)
  cases hf
  exact hv
theorem k_X12_reading_b43 {kc : Bool} {F : Nat}  {r : Int} {σ' : mMem}   {x1 x2 t0 : Int} {σ : mMem} (hf : g_X12_reading_b43 F x1 x2 t0 σ = some (r, σ')) (hv : KI kc σ) : KI kc σ' := by
  unfold g_X12_reading_b43 at hf
  refine f_gd hf (fun hf => ?_)
  refine fk_mem hf (KI.up hv (by omega)) (fun σ204 hv hf => ?_)
  refine f_gd hf (fun hf => ?_)
  refine fk_mem hf (KI.up hv (by omega)) (fun σ205 hv hf => ?_)
  refine f_ite hf (fun hf => ?_) (fun hf => ?_)
  · exact k_X12_reading_b67 hf hv
  · exact k_X12_reading_b67 hf hv
theorem k_X12_reading_b25 {kc : Bool} {F : Nat}  {r : Int} {σ' : mMem}   {x1 x2 t0 : Int} {σ : mMem} (hf : g_X12_reading_b25 F x1 x2 t0 σ = some (r, σ')) (hv : KI kc σ) : KI kc σ' := by
  unfold g_X12_reading_b25 at hf
  refine f_mob hf (fun r102 σ103 h1 hf => ?_)
  have hv := k_X12_counts h1 hv
  refine f_ite hf (fun hf => ?_) (fun hf => ?_)
  · refine f_ite hf (fun hf => ?_) (fun hf => ?_)
    · exact k_X12_reading_b43 hf hv
    · exact k_X12_reading_b43 hf hv
  · cases hf
    exact hv
theorem k_X12_reading {kc : Bool} {F : Nat}  {r : Int} {σ' : mMem} {x1 : Int} {σ : mMem} (hf : g_X12_reading F x1 σ = some (r, σ')) (hv : KI kc σ) : KI kc σ' := by
  unfold g_X12_reading at hf
  refine f_let hf (fun y1 hf => ?_)
  refine f_gd hf (fun hf => ?_)
  refine f_ite hf (fun hf => ?_) (fun hf => ?_)
  · exact k_X12_reading_b25 hf hv
  · exact k_X12_reading_b25 hf hv
theorem k_X12_telling_b37 {kc : Bool} {F : Nat}  {r : Int} {σ' : mMem}   {σ : mMem} (hf : g_X12_telling_b37 F  σ = some (r, σ')) (hv : KI kc σ) : KI kc σ' := by
  unfold g_X12_telling_b37 at hf
  cases hf
  exact hv
theorem k_X12_telling {kc : Bool} {F : Nat}  {r : Int} {σ' : mMem} {x1 x2 : Int} {σ : mMem} (hf : g_X12_telling F x1 x2 σ = some (r, σ')) (hv : KI kc σ) : KI kc σ' := by
  unfold g_X12_telling at hf
  refine f_mob hf (fun r1 σ2 h1 hf => ?_)
  have hv := k_X12_counts h1 hv
  refine f_ite hf (fun hf => ?_) (fun hf => ?_)
  · refine f_mob hf (fun r3 σ4 h1 hf => ?_)
    have hv := k_X12_number h1 hv
    refine f_ite hf (fun hf => ?_) (fun hf => ?_)
    · exact k_X12_telling_b37 hf hv
    · refine f_gd hf (fun hf => ?_)
      refine fk_mem hf (KI.up hv (by omega)) (fun σ5 hv hf => ?_)
      exact k_X12_telling_b37 hf hv
  · cases hf
    exact hv
theorem k_X12_statement_b186 {kc : Bool} {F : Nat}  {r : Int} {σ' : mMem}   {σ : mMem} (hf : g_X12_statement_b186 F  σ = some (r, σ')) (hv : KI kc σ) : KI kc σ' := by
  unfold g_X12_statement_b186 at hf
  cases hf
  exact hv
theorem k_X12_statement {kc : Bool} {F : Nat}  {r : Int} {σ' : mMem} {σ : mMem} (hf : g_X12_statement F σ = some (r, σ')) (hv : KI kc σ) : KI kc σ' := by
  unfold g_X12_statement at hf
  refine f_mob hf (fun r1 σ2 h1 hf => ?_)
  have hv := k_X12_lex h1 hv
  refine f_ite hf (fun hf => ?_) (fun hf => ?_)
  · refine f_mob hf (fun r3 σ4 h1 hf => ?_)
    have hv := KI.of (fun q j hq => f_X12_isWord h1 q j (by unfold T_X12_isWord; exact id)) hv
    refine f_ite hf (fun hf => ?_) (fun hf => ?_)
    · refine f_mob hf (fun r5 σ6 h1 hf => ?_)
      have hv := KI.of (fun q j hq => f_X12_isWord h1 q j (by unfold T_X12_isWord; exact id)) hv
      refine f_ite hf (fun hf => ?_) (fun hf => ?_)
      · refine f_mob hf (fun r7 σ8 h1 hf => ?_)
        have hv := KI.of (fun q j hq => f_X12_isWord h1 q j (by unfold T_X12_isWord; exact id)) hv
        refine f_ite hf (fun hf => ?_) (fun hf => ?_)
        · refine f_mob hf (fun r9 σ10 h1 hf => ?_)
          have hv := KI.of (fun q j hq => f_X12_isWord h1 q j (by unfold T_X12_isWord; exact id)) hv
          refine f_ite hf (fun hf => ?_) (fun hf => ?_)
          · refine f_mob hf (fun r11 σ12 h1 hf => ?_)
            have hv := KI.of (fun q j hq => f_X12_isWord h1 q j (by unfold T_X12_isWord; exact id)) hv
            refine f_ite hf (fun hf => ?_) (fun hf => ?_)
            · refine f_mob hf (fun r13 σ14 h1 hf => ?_)
              have hv := KI.of (fun q j hq => f_X12_isWord h1 q j (by unfold T_X12_isWord; exact id)) hv
              refine f_ite hf (fun hf => ?_) (fun hf => ?_)
              · refine f_mob hf (fun r15 σ16 h1 hf => ?_)
                have hv := KI.of (fun q j hq => f_X12_isWord h1 q j (by unfold T_X12_isWord; exact id)) hv
                refine f_ite hf (fun hf => ?_) (fun hf => ?_)
                · refine f_mob hf (fun r17 σ18 h1 hf => ?_)
                  have hv := KI.of (fun q j hq => f_X12_isWord h1 q j (by unfold T_X12_isWord; exact id)) hv
                  refine f_ite hf (fun hf => ?_) (fun hf => ?_)
                  · refine f_mob hf (fun r19 σ20 h1 hf => ?_)
                    have hv := KI.of (fun q j hq => f_X12_isWord h1 q j (by unfold T_X12_isWord; exact id)) hv
                    refine f_ite hf (fun hf => ?_) (fun hf => ?_)
                    · refine f_mob hf (fun r21 σ22 h1 hf => ?_)
                      have hv := k_X12_blame (by decide) h1 hv
                      exact k_X12_statement_b186 hf hv
                    · refine f_mob hf (fun r23 σ24 h1 hf => ?_)
                      have hv := k_X12_telling h1 hv
                      exact k_X12_statement_b186 hf hv
                  · refine f_mob hf (fun r25 σ26 h1 hf => ?_)
                    have hv := k_X12_telling h1 hv
                    exact k_X12_statement_b186 hf hv
                · refine f_mob hf (fun r27 σ28 h1 hf => ?_)
                  have hv := k_X12_telling h1 hv
                  exact k_X12_statement_b186 hf hv
              · refine f_mob hf (fun r29 σ30 h1 hf => ?_)
                have hv := k_X12_reading h1 hv
                exact k_X12_statement_b186 hf hv
            · refine f_mob hf (fun r31 σ32 h1 hf => ?_)
              have hv := k_X12_reading h1 hv
              exact k_X12_statement_b186 hf hv
          · refine f_mob hf (fun r33 σ34 h1 hf => ?_)
            have hv := k_X12_biasing h1 hv
            exact k_X12_statement_b186 hf hv
        · refine f_mob hf (fun r35 σ36 h1 hf => ?_)
          have hv := k_X12_eyeing h1 hv
          exact k_X12_statement_b186 hf hv
      · refine f_mob hf (fun r37 σ38 h1 hf => ?_)
        have hv := k_X12_boxing h1 hv
        exact k_X12_statement_b186 hf hv
    · refine f_mob hf (fun r39 σ40 h1 hf => ?_)
      have hv := k_X12_greying h1 hv
      exact k_X12_statement_b186 hf hv
  · cases hf
    exact hv
theorem k_X12_finishes_b83 {kc : Bool} {F : Nat}  {r : Int} {σ' : mMem}   {σ : mMem} (hf : g_X12_finishes_b83 F  σ = some (r, σ')) (hv : KI kc σ) : KI kc σ' := by
  unfold g_X12_finishes_b83 at hf
  refine f_mob hf (fun r408 σ409 h1 hf => ?_)
  have hv := k_X12_must h1 hv
  cases hf
  exact hv
theorem k_X12_finishes_b53 {kc : Bool} {F : Nat}  {r : Int} {σ' : mMem}   {x1 x2 : Int} {σ : mMem} (hf : g_X12_finishes_b53 F x1 x2 σ = some (r, σ')) (hv : KI kc σ) : KI kc σ' := by
  unfold g_X12_finishes_b53 at hf
  refine f_mob hf (fun r204 σ205 h1 hf => ?_)
  have hv := KI.of (fun q j hq => f_X12_isSign h1 q j (by unfold T_X12_isSign; exact id)) hv
  refine f_ite hf (fun hf => ?_) (fun hf => ?_)
  · exact k_X12_finishes_b83 hf hv
  · refine f_ite hf (fun hf => ?_) (fun hf => ?_)
    · exact k_X12_finishes_b83 hf hv
    · refine f_ite hf (fun hf => ?_) (fun hf => ?_)
      · exact k_X12_finishes_b83 hf hv
      · refine f_mob hf (fun r206 σ207 h1 hf => ?_)
        have hv := k_X12_blame (by decide) h1 hv
        exact k_X12_finishes_b83 hf hv
theorem k_X12_finishes_b47 {kc : Bool} {F : Nat}  {r : Int} {σ' : mMem} {k17 : Int → Int → mMem → mRs} (hk17 : ∀ (x1 x2 : Int) (σ : mMem), k17 x1 x2 σ = some (r, σ') → KI kc σ → KI kc σ') {x1 x2 : Int} {σ : mMem} (hf : g_X12_finishes_b47 F k17 x1 x2 σ = some (r, σ')) (hv : KI kc σ) : KI kc σ' := by
  unfold g_X12_finishes_b47 at hf
  exact hk17 _ _ _ hf hv
theorem k_X12_finishes_h17 {kc : Bool} {F : Nat}  {r : Int} {σ' : mMem}   (n : Nat) : ∀ {x1 x2 : Int} {σ : mMem} (_ : g_X12_finishes_h17 F n x1 x2 σ = some (r, σ')), KI kc σ → KI kc σ' := by
  induction n with
  | zero =>
    intro x1 x2 σ hf hv
    unfold g_X12_finishes_h17 at hf
    cases hf
  | succ n ih =>
    have hk17 : ∀ (x1 x2 : Int) (σ : mMem), g_X12_finishes_h17 F n x1 x2 σ = some (r, σ') → KI kc σ → KI kc σ' := fun x1 x2 σ hf => ih hf
    intro x1 x2 σ hf hv
    unfold g_X12_finishes_h17 at hf
    refine f_ite hf (fun hf => ?_) (fun hf => ?_)
    · exact k_X12_finishes_b53 hf hv
    · refine f_gd hf (fun hf => ?_)
      refine f_ite hf (fun hf => ?_) (fun hf => ?_)
      · exact k_X12_finishes_b47 hk17 hf hv
      · refine f_gd hf (fun hf => ?_)
        refine f_ite hf (fun hf => ?_) (fun hf => ?_)
        · exact k_X12_finishes_b53 hf hv
        · exact k_X12_finishes_b47 hk17 hf hv
theorem k_X12_finishes {kc : Bool} {F : Nat}  {r : Int} {σ' : mMem} {x1 : Int} {σ : mMem} (hf : g_X12_finishes F x1 σ = some (r, σ')) (hv : KI kc σ) : KI kc σ' := by
  unfold g_X12_finishes at hf
  refine f_mob hf (fun r1 σ2 h1 hf => ?_)
  have hv := k_X12_lex h1 hv
  refine f_ite hf (fun hf => ?_) (fun hf => ?_)
  · refine f_let hf (fun y3 hf => ?_)
    exact k_X12_finishes_h17 _ hf hv
  · cases hf
    exact hv
