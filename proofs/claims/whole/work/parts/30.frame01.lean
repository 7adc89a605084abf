def T_X10_loadFrom (o : Nat) (a1 : Nat) (q j : Nat) : Prop := (q = o ∧ (j = 4 ∨ j = 5)) ∨ q = (o + 1)
theorem f_X10_loadFrom_b35 {F : Nat} {o : Nat} {a1 n1 : Nat} {r : Int} {σ' : mMem}   {σ : mMem} (hf : g_X10_loadFrom_b35 F o a1 n1  σ = some (r, σ')) : ∀ q j, ¬ T_X10_loadFrom o a1 q j → σ' q j = σ q j := by
  unfold g_X10_loadFrom_b35 at hf
  have hs : ∀ q j, ¬ T_X10_loadFrom o a1 q j → σ q j = σ q j := fun _ _ _ => rfl
  cases hf
  exact hs
theorem f_X10_loadFrom {F : Nat} {o : Nat} {a1 n1 : Nat} {r : Int} {σ' : mMem} {σ : mMem} (hf : g_X10_loadFrom F o a1 n1 σ = some (r, σ')) : ∀ q j, ¬ T_X10_loadFrom o a1 q j → σ' q j = σ q j := by
  unfold g_X10_loadFrom at hf
  have hs : ∀ q j, ¬ T_X10_loadFrom o a1 q j → σ q j = σ q j := fun _ _ _ => rfl
  refine f_ite hf (fun hf => ?_) (fun hf => ?_)
  · exact fun q j hq => (f_X10_loadFrom_b35 hf q j hq).trans (hs q j hq)
  · refine f_gd hf (fun hf => ?_)
    refine f_mem hf (fun q j hq => (mupo_ne (by unfold T_X10_loadFrom at hq; omega)).trans (hs q j hq)) (fun σ1 hs hf => ?_)
    refine f_gd hf (fun hf => ?_)
    refine f_mem hf (fun q j hq => (mup_ne (by unfold T_X10_loadFrom at hq; omega)).trans (hs q j hq)) (fun σ2 hs hf => ?_)
    refine f_gd hf (fun hf => ?_)
    refine f_mem hf (fun q j hq => (mup_ne (by unfold T_X10_loadFrom at hq; omega)).trans (hs q j hq)) (fun σ3 hs hf => ?_)
    exact fun q j hq => (f_X10_loadFrom_b35 hf q j hq).trans (hs q j hq)
def T_X3_restore (w1 : Nat) (q j : Nat) : Prop := (q = 54 ∧ (j = 2 ∨ j = 3 ∨ j = 4)) ∨ q = 76 ∨ (q = w1 ∧ (j = 4 ∨ j = 5)) ∨ q = (w1 + 1)
theorem f_X3_restore {F : Nat} {w1 : Nat} {r : Int} {σ' : mMem} {σ : mMem} (hf : g_X3_restore F w1 σ = some (r, σ')) : ∀ q j, ¬ T_X3_restore w1 q j → σ' q j = σ q j := by
  unfold g_X3_restore at hf
  have hs : ∀ q j, ¬ T_X3_restore w1 q j → σ q j = σ q j := fun _ _ _ => rfl
  refine f_ite hf (fun hf => ?_) (fun hf => ?_)
  · refine f_mob hf (fun r1 σ2 h1 hf => ?_)
    have hs := fun q j hq => (f_J9_floorMod_7cf53 h1 q j (by unfold T_J9_floorMod_7cf53; exact id)).trans (hs q j hq)
    refine f_mem hf (fun q j hq => (mup_ne (by unfold T_X3_restore at hq; omega)).trans (hs q j hq)) (fun σ3 hs hf => ?_)
    refine f_ga hf (fun hj4 hf => ?_)
    refine f_mob hf (fun r5 σ6 h1 hf => ?_)
    have hs := fun q j hq => (f_X10_loadFrom h1 q j (by unfold T_X3_restore at hq; unfold T_X10_loadFrom; omega)).trans (hs q j hq)
    refine f_gd hf (fun hf => ?_)
    refine f_mem hf (fun q j hq => (mup_ne (by unfold T_X3_restore at hq; omega)).trans (hs q j hq)) (fun σ7 hs hf => ?_)
    refine f_gd hf (fun hf => ?_)
    refine f_mem hf (fun q j hq => (mupo_ne (by unfold T_X3_restore at hq; omega)).trans (hs q j hq)) (fun σ8 hs hf => ?_)
    refine f_mem hf (fun q j hq => (mup_ne (by unfold T_X3_restore at hq; omega)).trans (hs q j hq)) (fun σ9 hs hf => ?_)
    cases hf
    exact hs
  · cases hf
    exact hs
def T_X3_keepStep (w1 : Nat) (q j : Nat) : Prop := (q = 54 ∧ (j = 2)) ∨ q = 76
theorem f_X3_keepStep_b97 {F : Nat} {w1 : Nat} {r : Int} {σ' : mMem}   {σ : mMem} (hf : g_X3_keepStep_b97 F w1  σ = some (r, σ')) : ∀ q j, ¬ T_X3_keepStep w1 q j → σ' q j = σ q j := by
  unfold g_X3_keepStep_b97 at hf
  have hs : ∀ q j, ¬ T_X3_keepStep w1 q j → σ q j = σ q j := fun _ _ _ => rfl
  cases hf
  exact hs
theorem f_X3_keepStep_b91 {F : Nat} {w1 : Nat} {r : Int} {σ' : mMem} {k2 : Int → mMem → mRs} (hk2 : ∀ (x2 : Int) (σ : mMem), k2 x2 σ = some (r, σ') → ∀ q j, ¬ T_X3_keepStep w1 q j → σ' q j = σ q j) {x2 : Int} {σ : mMem} (hf : g_X3_keepStep_b91 F w1 k2 x2 σ = some (r, σ')) : ∀ q j, ¬ T_X3_keepStep w1 q j → σ' q j = σ q j := by
  unfold g_X3_keepStep_b91 at hf
  have hs : ∀ q j, ¬ T_X3_keepStep w1 q j → σ q j = σ q j := fun _ _ _ => rfl
  exact fun q j hq => (hk2 _ _ hf q j hq).trans (hs q j hq)
theorem f_X3_keepStep_h2 {F : Nat} {w1 : Nat} {r : Int} {σ' : mMem}   (n : Nat) : ∀ {x2 : Int} {σ : mMem} (_ : g_X3_keepStep_h2 F w1 n x2 σ = some (r, σ')), ∀ q j, ¬ T_X3_keepStep w1 q j → σ' q j = σ q j := by
  induction n with
  | zero =>
    intro x2 σ hf
    unfold g_X3_keepStep_h2 at hf
    cases hf
  | succ n ih =>
    have hk2 : ∀ (x2 : Int) (σ : mMem), g_X3_keepStep_h2 F w1 n x2 σ = some (r, σ') → ∀ q j, ¬ T_X3_keepStep w1 q j → σ' q j = σ q j := fun x2 σ hf => ih hf
    intro x2 σ hf
    unfold g_X3_keepStep_h2 at hf
    have hs : ∀ q j, ¬ T_X3_keepStep w1 q j → σ q j = σ q j := fun _ _ _ => rfl
    refine f_gp hf (fun hg101 hf => ?_)
    refine f_ite hf (fun hf => ?_) (fun hf => ?_)
    · exact fun q j hq => (f_X3_keepStep_b97 hf q j hq).trans (hs q j hq)
    · refine f_ite hf (fun hf => ?_) (fun hf => ?_)
      · exact fun q j hq => (f_X3_keepStep_b97 hf q j hq).trans (hs q j hq)
      · refine f_gd hf (fun hf => ?_)
        refine f_ite hf (fun hf => ?_) (fun hf => ?_)
        · exact fun q j hq => (f_X3_keepStep_b91 hk2 hf q j hq).trans (hs q j hq)
        · refine f_mob hf (fun r102 σ103 h1 hf => ?_)
          have hs := fun q j hq => (f_X10_of h1 q j (by unfold T_X10_of; exact id)).trans (hs q j hq)
          refine f_mob hf (fun r104 σ105 h1 hf => ?_)
          have hs := fun q j hq => (f_X10_of h1 q j (by unfold T_X10_of; exact id)).trans (hs q j hq)
          refine f_let hf (fun y106 hf => ?_)
          refine f_let hf (fun y107 hf => ?_)
          refine f_mob hf (fun r108 σ109 h1 hf => ?_)
          have hs := fun q j hq => (f_J9_floorMod_7cf53 h1 q j (by unfold T_J9_floorMod_7cf53; exact id)).trans (hs q j hq)
          refine f_gd hf (fun hf => ?_)
          refine f_mem hf (fun q j hq => (mup_ne (by unfold T_X3_keepStep at hq; omega)).trans (hs q j hq)) (fun σ110 hs hf => ?_)
          refine f_mem hf (fun q j hq => (mup_ne (by unfold T_X3_keepStep at hq; omega)).trans (hs q j hq)) (fun σ111 hs hf => ?_)
          exact fun q j hq => (f_X3_keepStep_b91 hk2 hf q j hq).trans (hs q j hq)
theorem f_X3_keepStep {F : Nat} {w1 : Nat} {r : Int} {σ' : mMem} {σ : mMem} (hf : g_X3_keepStep F w1 σ = some (r, σ')) : ∀ q j, ¬ T_X3_keepStep w1 q j → σ' q j = σ q j := by
  unfold g_X3_keepStep at hf
  have hs : ∀ q j, ¬ T_X3_keepStep w1 q j → σ q j = σ q j := fun _ _ _ => rfl
  exact fun q j hq => (f_X3_keepStep_h2 _ hf q j hq).trans (hs q j hq)
def T_X3_keptPart  (q j : Nat) : Prop := False
theorem f_X3_keptPart_b12 {F : Nat}  {r : Int} {σ' : mMem}   {σ : mMem} (hf : g_X3_keptPart_b12 F  σ = some (r, σ')) : ∀ q j, ¬ T_X3_keptPart  q j → σ' q j = σ q j := by
  unfold g_X3_keptPart_b12 at hf
  have hs : ∀ q j, ¬ T_X3_keptPart  q j → σ q j = σ q j := fun _ _ _ => rfl
  cases hf
  exact hs
theorem f_X3_keptPart {F : Nat}  {r : Int} {σ' : mMem} {x1 x2 : Int} {σ : mMem} (hf : g_X3_keptPart F x1 x2 σ = some (r, σ')) : ∀ q j, ¬ T_X3_keptPart  q j → σ' q j = σ q j := by
  unfold g_X3_keptPart at hf
  have hs : ∀ q j, ¬ T_X3_keptPart  q j → σ q j = σ q j := fun _ _ _ => rfl
  refine f_ite hf (fun hf => ?_) (fun hf => ?_)
  · exact fun q j hq => (f_X3_keptPart_b12 hf q j hq).trans (hs q j hq)
  · refine f_mob hf (fun r1 σ2 h1 hf => ?_)
    have hs := fun q j hq => (f_X3_told h1 q j (by unfold T_X3_told; exact id)).trans (hs q j hq)
    refine f_ite hf (fun hf => ?_) (fun hf => ?_)
    · refine f_mob hf (fun r3 σ4 h1 hf => ?_)
      have hs := fun q j hq => (f_X3_told h1 q j (by unfold T_X3_told; exact id)).trans (hs q j hq)
      refine f_mob hf (fun r5 σ6 h1 hf => ?_)
      have hs := fun q j hq => (f_J9_floorMod_7cf53 h1 q j (by unfold T_J9_floorMod_7cf53; exact id)).trans (hs q j hq)
      refine f_gd hf (fun hf => ?_)
      refine f_let hf (fun y7 hf => ?_)
      refine f_ite hf (fun hf => ?_) (fun hf => ?_)
      · cases hf
        exact hs
      refine f_ite hf (fun hf => ?_) (fun hf => ?_)
      · cases hf
        exact hs
      refine f_ite hf (fun hf => ?_) (fun hf => ?_)
      · cases hf
        exact hs
      refine f_ite hf (fun hf => ?_) (fun hf => ?_)
      · cases hf
        exact hs
      cases hf
      exact hs
    · exact fun q j hq => (f_X3_keptPart_b12 hf q j hq).trans (hs q j hq)
def T_X4_byteAt  (q j : Nat) : Prop := False
theorem f_X4_byteAt_b31 {F : Nat}  {r : Int} {σ' : mMem}   {t0 : Int} {σ : mMem} (hf : g_X4_byteAt_b31 F t0 σ = some (r, σ')) : ∀ q j, ¬ T_X4_byteAt  q j → σ' q j = σ q j := by
  unfold g_X4_byteAt_b31 at hf
  have hs : ∀ q j, ¬ T_X4_byteAt  q j → σ q j = σ q j := fun _ _ _ => rfl
  cases hf
  exact hs
theorem f_X4_byteAt_b21 {F : Nat}  {r : Int} {σ' : mMem}   {σ : mMem} (hf : g_X4_byteAt_b21 F  σ = some (r, σ')) : ∀ q j, ¬ T_X4_byteAt  q j → σ' q j = σ q j := by
  unfold g_X4_byteAt_b21 at hf
  have hs : ∀ q j, ¬ T_X4_byteAt  q j → σ q j = σ q j := fun _ _ _ => rfl
  exact fun q j hq => (f_X4_byteAt_b31 hf q j hq).trans (hs q j hq)
theorem f_X4_byteAt {F : Nat}  {r : Int} {σ' : mMem} {x1 : Int} {σ : mMem} (hf : g_X4_byteAt F x1 σ = some (r, σ')) : ∀ q j, ¬ T_X4_byteAt  q j → σ' q j = σ q j := by
  unfold g_X4_byteAt at hf
  have hs : ∀ q j, ¬ T_X4_byteAt  q j → σ q j = σ q j := fun _ _ _ => rfl
  refine f_ite hf (fun hf => ?_) (fun hf => ?_)
  · exact fun q j hq => (f_X4_byteAt_b21 hf q j hq).trans (hs q j hq)
  · refine f_ite hf (fun hf => ?_) (fun hf => ?_)
    · exact fun q j hq => (f_X4_byteAt_b21 hf q j hq).trans (hs q j hq)
    · refine f_ite hf (fun hf => ?_) (fun hf => ?_)
      · refine f_gd hf (fun hf => ?_)
        exact fun q j hq => (f_X4_byteAt_b31 hf q j hq).trans (hs q j hq)
      · exact fun q j hq => (f_X4_byteAt_b21 hf q j hq).trans (hs q j hq)
def T_X4_add  (q j : Nat) : Prop := (q = 77 ∧ (j = 1)) ∨ q = 78
theorem f_X4_add_b39 {F : Nat}  {r : Int} {σ' : mMem}   {σ : mMem} (hf : g_X4_add_b39 F  σ = some (r, σ')) : ∀ q j, ¬ T_X4_add  q j → σ' q j = σ q j := by
  unfold g_X4_add_b39 at hf
  have hs : ∀ q j, ¬ T_X4_add  q j → σ q j = σ q j := fun _ _ _ => rfl
  cases hf
  exact hs
theorem f_X4_add {F : Nat}  {r : Int} {σ' : mMem} {x1 : Int} {σ : mMem} (hf : g_X4_add F x1 σ = some (r, σ')) : ∀ q j, ¬ T_X4_add  q j → σ' q j = σ q j := by
  unfold g_X4_add at hf
  have hs : ∀ q j, ¬ T_X4_add  q j → σ q j = σ q j := fun _ _ _ => rfl
  refine f_ite hf (fun hf => ?_) (fun hf => ?_)
  · exact fun q j hq => (f_X4_add_b39 hf q j hq).trans (hs q j hq)
  · refine f_ite hf (fun hf => ?_) (fun hf => ?_)
    · exact fun q j hq => (f_X4_add_b39 hf q j hq).trans (hs q j hq)
    · refine f_gd hf (fun hf => ?_)
      refine f_mem hf (fun q j hq => (mup_ne (by unfold T_X4_add at hq; omega)).trans (hs q j hq)) (fun σ1 hs hf => ?_)
      refine f_mem hf (fun q j hq => (mup_ne (by unfold T_X4_add at hq; omega)).trans (hs q j hq)) (fun σ2 hs hf => ?_)
      exact fun q j hq => (f_X4_add_b39 hf q j hq).trans (hs q j hq)
def T_X4_addPair  (q j : Nat) : Prop := (q = 77 ∧ (j = 1)) ∨ q = 78
theorem f_X4_addPair {F : Nat}  {r : Int} {σ' : mMem} {x1 : Int} {σ : mMem} (hf : g_X4_addPair F x1 σ = some (r, σ')) : ∀ q j, ¬ T_X4_addPair  q j → σ' q j = σ q j := by
  unfold g_X4_addPair at hf
  have hs : ∀ q j, ¬ T_X4_addPair  q j → σ q j = σ q j := fun _ _ _ => rfl
  refine f_mob hf (fun r1 σ2 h1 hf => ?_)
  have hs := fun q j hq => (f_X4_add h1 q j (by unfold T_X4_addPair at hq; unfold T_X4_add; omega)).trans (hs q j hq)
  refine f_mob hf (fun r3 σ4 h1 hf => ?_)
  have hs := fun q j hq => (f_X4_add h1 q j (by unfold T_X4_addPair at hq; unfold T_X4_add; omega)).trans (hs q j hq)
  cases hf
  exact hs
def T_X4_checkedBy  (q j : Nat) : Prop := False
theorem f_X4_checkedBy {F : Nat}  {r : Int} {σ' : mMem} {x0 x1 : Int} {σ : mMem} (hf : g_X4_checkedBy F x0 x1 σ = some (r, σ')) : ∀ q j, ¬ T_X4_checkedBy  q j → σ' q j = σ q j := by
  unfold g_X4_checkedBy at hf
  have hs : ∀ q j, ¬ T_X4_checkedBy  q j → σ q j = σ q j := fun _ _ _ => rfl
  refine f_dv hf (fun hf => ?_)
  cases hf
  exact hs
def T_X4_write (w1 : Nat) (q j : Nat) : Prop := (q = 77 ∧ (j = 1)) ∨ q = 78
theorem f_X4_write_h107 {F : Nat} {w1 : Nat} {r : Int} {σ' : mMem}   (n : Nat) : ∀ {x2 x3 : Int} {σ : mMem} (_ : g_X4_write_h107 F w1 n x2 x3 σ = some (r, σ')), ∀ q j, ¬ T_X4_write w1 q j → σ' q j = σ q j := by
  induction n with
  | zero =>
    intro x2 x3 σ hf
    unfold g_X4_write_h107 at hf
    cases hf
  | succ n ih =>
    have hk107 : ∀ (x2 x3 : Int) (σ : mMem), g_X4_write_h107 F w1 n x2 x3 σ = some (r, σ') → ∀ q j, ¬ T_X4_write w1 q j → σ' q j = σ q j := fun x2 x3 σ hf => ih hf
    intro x2 x3 σ hf
    unfold g_X4_write_h107 at hf
    have hs : ∀ q j, ¬ T_X4_write w1 q j → σ q j = σ q j := fun _ _ _ => rfl
    refine f_ite hf (fun hf => ?_) (fun hf => ?_)
    · refine f_mob hf (fun r231 σ232 h1 hf => ?_)
      have hs := fun q j hq => (f_X4_add h1 q j (by unfold T_X4_write at hq; unfold T_X4_add; omega)).trans (hs q j hq)
      cases hf
      exact hs
    · refine f_mob hf (fun r233 σ234 h1 hf => ?_)
      have hs := fun q j hq => (f_X4_byteAt h1 q j (by unfold T_X4_byteAt; exact id)).trans (hs q j hq)
      refine f_mob hf (fun r235 σ236 h1 hf => ?_)
      have hs := fun q j hq => (f_X4_checkedBy h1 q j (by unfold T_X4_checkedBy; exact id)).trans (hs q j hq)
      exact fun q j hq => (hk107 _ _ _ hf q j hq).trans (hs q j hq)
theorem f_X4_write_h23 {F : Nat} {w1 : Nat} {r : Int} {σ' : mMem}   (n : Nat) : ∀ {x2 : Int} {σ : mMem} (_ : g_X4_write_h23 F w1 n x2 σ = some (r, σ')), ∀ q j, ¬ T_X4_write w1 q j → σ' q j = σ q j := by
  induction n with
  | zero =>
    intro x2 σ hf
    unfold g_X4_write_h23 at hf
    cases hf
  | succ n ih =>
    have hk23 : ∀ (x2 : Int) (σ : mMem), g_X4_write_h23 F w1 n x2 σ = some (r, σ') → ∀ q j, ¬ T_X4_write w1 q j → σ' q j = σ q j := fun x2 σ hf => ih hf
    intro x2 σ hf
    unfold g_X4_write_h23 at hf
    have hs : ∀ q j, ¬ T_X4_write w1 q j → σ q j = σ q j := fun _ _ _ => rfl
    refine f_gp hf (fun hg106 hf => ?_)
    refine f_ite hf (fun hf => ?_) (fun hf => ?_)
    · exact fun q j hq => (f_X4_write_h107 _ hf q j hq).trans (hs q j hq)
    · refine f_mob hf (fun r107 σ108 h1 hf => ?_)
      have hs := fun q j hq => (f_X10_of h1 q j (by unfold T_X10_of; exact id)).trans (hs q j hq)
      refine f_mob hf (fun r109 σ110 h1 hf => ?_)
      have hs := fun q j hq => (f_X4_add h1 q j (by unfold T_X4_write at hq; unfold T_X4_add; omega)).trans (hs q j hq)
      refine f_mob hf (fun r111 σ112 h1 hf => ?_)
      have hs := fun q j hq => (f_X10_of h1 q j (by unfold T_X10_of; exact id)).trans (hs q j hq)
      refine f_mob hf (fun r113 σ114 h1 hf => ?_)
      have hs := fun q j hq => (f_X4_add h1 q j (by unfold T_X4_write at hq; unfold T_X4_add; omega)).trans (hs q j hq)
      refine f_mob hf (fun r115 σ116 h1 hf => ?_)
      have hs := fun q j hq => (f_X10_of h1 q j (by unfold T_X10_of; exact id)).trans (hs q j hq)
      refine f_mob hf (fun r117 σ118 h1 hf => ?_)
      have hs := fun q j hq => (f_X4_add h1 q j (by unfold T_X4_write at hq; unfold T_X4_add; omega)).trans (hs q j hq)
      refine f_mob hf (fun r119 σ120 h1 hf => ?_)
      have hs := fun q j hq => (f_X10_of h1 q j (by unfold T_X10_of; exact id)).trans (hs q j hq)
      refine f_mob hf (fun r121 σ122 h1 hf => ?_)
      have hs := fun q j hq => (f_X4_addPair h1 q j (by unfold T_X4_write at hq; unfold T_X4_addPair; omega)).trans (hs q j hq)
      refine f_mob hf (fun r123 σ124 h1 hf => ?_)
      have hs := fun q j hq => (f_X10_of h1 q j (by unfold T_X10_of; exact id)).trans (hs q j hq)
      refine f_mob hf (fun r125 σ126 h1 hf => ?_)
      have hs := fun q j hq => (f_X4_add h1 q j (by unfold T_X4_write at hq; unfold T_X4_add; omega)).trans (hs q j hq)
      refine f_mob hf (fun r127 σ128 h1 hf => ?_)
      have hs := fun q j hq => (f_X10_of h1 q j (by unfold T_X10_of; exact id)).trans (hs q j hq)
      refine f_mob hf (fun r129 σ130 h1 hf => ?_)
      have hs := fun q j hq => (f_X4_addPair h1 q j (by unfold T_X4_write at hq; unfold T_X4_addPair; omega)).trans (hs q j hq)
      exact fun q j hq => (hk23 _ _ hf q j hq).trans (hs q j hq)
theorem f_X4_write {F : Nat} {w1 : Nat} {r : Int} {σ' : mMem} {σ : mMem} (hf : g_X4_write F w1 σ = some (r, σ')) : ∀ q j, ¬ T_X4_write w1 q j → σ' q j = σ q j := by
  unfold g_X4_write at hf
  have hs : ∀ q j, ¬ T_X4_write w1 q j → σ q j = σ q j := fun _ _ _ => rfl
  refine f_mem hf (fun q j hq => (mup_ne (by unfold T_X4_write at hq; omega)).trans (hs q j hq)) (fun σ1 hs hf => ?_)
  refine f_mob hf (fun r2 σ3 h1 hf => ?_)
  have hs := fun q j hq => (f_X4_addPair h1 q j (by unfold T_X4_write at hq; unfold T_X4_addPair; omega)).trans (hs q j hq)
  refine f_mob hf (fun r4 σ5 h1 hf => ?_)
  have hs := fun q j hq => (f_X4_add h1 q j (by unfold T_X4_write at hq; unfold T_X4_add; omega)).trans (hs q j hq)
  exact fun q j hq => (f_X4_write_h23 _ hf q j hq).trans (hs q j hq)
def T_X7_at  (q j : Nat) : Prop := False
theorem f_X7_at_b29 {F : Nat}  {r : Int} {σ' : mMem}   {t0 : Int} {σ : mMem} (hf : g_X7_at_b29 F t0 σ = some (r, σ')) : ∀ q j, ¬ T_X7_at  q j → σ' q j = σ q j := by
  unfold g_X7_at_b29 at hf
  have hs : ∀ q j, ¬ T_X7_at  q j → σ q j = σ q j := fun _ _ _ => rfl
  cases hf
  exact hs
theorem f_X7_at_b19 {F : Nat}  {r : Int} {σ' : mMem}   {σ : mMem} (hf : g_X7_at_b19 F  σ = some (r, σ')) : ∀ q j, ¬ T_X7_at  q j → σ' q j = σ q j := by
  unfold g_X7_at_b19 at hf
  have hs : ∀ q j, ¬ T_X7_at  q j → σ q j = σ q j := fun _ _ _ => rfl
  exact fun q j hq => (f_X7_at_b29 hf q j hq).trans (hs q j hq)
theorem f_X7_at {F : Nat}  {r : Int} {σ' : mMem} {x1 : Int} {σ : mMem} (hf : g_X7_at F x1 σ = some (r, σ')) : ∀ q j, ¬ T_X7_at  q j → σ' q j = σ q j := by
  unfold g_X7_at at hf
  have hs : ∀ q j, ¬ T_X7_at  q j → σ q j = σ q j := fun _ _ _ => rfl
  refine f_ite hf (fun hf => ?_) (fun hf => ?_)
  · exact fun q j hq => (f_X7_at_b19 hf q j hq).trans (hs q j hq)
  · refine f_ite hf (fun hf => ?_) (fun hf => ?_)
    · exact fun q j hq => (f_X7_at_b19 hf q j hq).trans (hs q j hq)
    · refine f_ite hf (fun hf => ?_) (fun hf => ?_)
      · refine f_gd hf (fun hf => ?_)
        exact fun q j hq => (f_X7_at_b29 hf q j hq).trans (hs q j hq)
      · exact fun q j hq => (f_X7_at_b19 hf q j hq).trans (hs q j hq)
def T_X7_pairAt  (q j : Nat) : Prop := False
theorem f_X7_pairAt {F : Nat}  {r : Int} {σ' : mMem} {x1 : Int} {σ : mMem} (hf : g_X7_pairAt F x1 σ = some (r, σ')) : ∀ q j, ¬ T_X7_pairAt  q j → σ' q j = σ q j := by
  unfold g_X7_pairAt at hf
  have hs : ∀ q j, ¬ T_X7_pairAt  q j → σ q j = σ q j := fun _ _ _ => rfl
  refine f_mob hf (fun r1 σ2 h1 hf => ?_)
  have hs := fun q j hq => (f_X7_at h1 q j (by unfold T_X7_at; exact id)).trans (hs q j hq)
  refine f_mob hf (fun r3 σ4 h1 hf => ?_)
  have hs := fun q j hq => (f_X7_at h1 q j (by unfold T_X7_at; exact id)).trans (hs q j hq)
  cases hf
  exact hs
def T_X4_readBox  (q j : Nat) : Prop := q = 80
theorem f_X4_readBox_b59 {F : Nat}  {r : Int} {σ' : mMem}   {σ : mMem} (hf : g_X4_readBox_b59 F  σ = some (r, σ')) : ∀ q j, ¬ T_X4_readBox  q j → σ' q j = σ q j := by
  unfold g_X4_readBox_b59 at hf
  have hs : ∀ q j, ¬ T_X4_readBox  q j → σ q j = σ q j := fun _ _ _ => rfl
  refine f_gd hf (fun hf => ?_)
  cases hf
  exact hs
theorem f_X4_readBox_b212 {F : Nat}  {r : Int} {σ' : mMem}   {t0 : Int} {σ : mMem} (hf : g_X4_readBox_b212 F t0 σ = some (r, σ')) : ∀ q j, ¬ T_X4_readBox  q j → σ' q j = σ q j := by
  unfold g_X4_readBox_b212 at hf
  have hs : ∀ q j, ¬ T_X4_readBox  q j → σ q j = σ q j := fun _ _ _ => rfl
  refine f_gd hf (fun hf => ?_)
  cases hf
  exact hs
theorem f_X4_readBox_b211 {F : Nat}  {r : Int} {σ' : mMem}   {σ : mMem} (hf : g_X4_readBox_b211 F  σ = some (r, σ')) : ∀ q j, ¬ T_X4_readBox  q j → σ' q j = σ q j := by
  unfold g_X4_readBox_b211 at hf
  have hs : ∀ q j, ¬ T_X4_readBox  q j → σ q j = σ q j := fun _ _ _ => rfl
  exact fun q j hq => (f_X4_readBox_b212 hf q j hq).trans (hs q j hq)
theorem f_X4_readBox {F : Nat}  {r : Int} {σ' : mMem} {x2 : Int} {σ : mMem} (hf : g_X4_readBox F x2 σ = some (r, σ')) : ∀ q j, ¬ T_X4_readBox  q j → σ' q j = σ q j := by
  unfold g_X4_readBox at hf
  have hs : ∀ q j, ¬ T_X4_readBox  q j → σ q j = σ q j := fun _ _ _ => rfl
  refine f_let hf (fun y1 hf => ?_)
  refine f_mob hf (fun r2 σ3 h1 hf => ?_)
  have hs := fun q j hq => (f_X7_at h1 q j (by unfold T_X7_at; exact id)).trans (hs q j hq)
  refine f_mob hf (fun r4 σ5 h1 hf => ?_)
  have hs := fun q j hq => (f_X7_at h1 q j (by unfold T_X7_at; exact id)).trans (hs q j hq)
  refine f_gp hf (fun hg6 hf => ?_)
  refine f_mob hf (fun r7 σ8 h1 hf => ?_)
  have hs := fun q j hq => (f_X5_hasCell h1 q j (by unfold T_X5_hasCell; exact id)).trans (hs q j hq)
  refine f_ite hf (fun hf => ?_) (fun hf => ?_)
  · exact fun q j hq => (f_X4_readBox_b59 hf q j hq).trans (hs q j hq)
  · refine f_mob hf (fun r9 σ10 h1 hf => ?_)
    have hs := fun q j hq => (f_X10_boxIn h1 q j (by unfold T_X10_boxIn; exact id)).trans (hs q j hq)
    refine f_ite hf (fun hf => ?_) (fun hf => ?_)
    · refine f_mob hf (fun r11 σ12 h1 hf => ?_)
      have hs := fun q j hq => (f_X10_set h1 q j (by unfold T_X4_readBox at hq; unfold T_X10_set; omega)).trans (hs q j hq)
      refine f_mob hf (fun r13 σ14 h1 hf => ?_)
      have hs := fun q j hq => (f_X10_set h1 q j (by unfold T_X4_readBox at hq; unfold T_X10_set; omega)).trans (hs q j hq)
      refine f_mob hf (fun r15 σ16 h1 hf => ?_)
      have hs := fun q j hq => (f_X7_at h1 q j (by unfold T_X7_at; exact id)).trans (hs q j hq)
      refine f_mob hf (fun r17 σ18 h1 hf => ?_)
      have hs := fun q j hq => (f_X10_set h1 q j (by unfold T_X4_readBox at hq; unfold T_X10_set; omega)).trans (hs q j hq)
      refine f_mob hf (fun r19 σ20 h1 hf => ?_)
      have hs := fun q j hq => (f_X7_pairAt h1 q j (by unfold T_X7_pairAt; exact id)).trans (hs q j hq)
      refine f_mob hf (fun r21 σ22 h1 hf => ?_)
      have hs := fun q j hq => (f_X10_set h1 q j (by unfold T_X4_readBox at hq; unfold T_X10_set; omega)).trans (hs q j hq)
      refine f_mob hf (fun r23 σ24 h1 hf => ?_)
      have hs := fun q j hq => (f_X7_at h1 q j (by unfold T_X7_at; exact id)).trans (hs q j hq)
      refine f_mob hf (fun r25 σ26 h1 hf => ?_)
      have hs := fun q j hq => (f_X10_set h1 q j (by unfold T_X4_readBox at hq; unfold T_X10_set; omega)).trans (hs q j hq)
      refine f_mob hf (fun r27 σ28 h1 hf => ?_)
      have hs := fun q j hq => (f_X7_pairAt h1 q j (by unfold T_X7_pairAt; exact id)).trans (hs q j hq)
      refine f_mob hf (fun r29 σ30 h1 hf => ?_)
      have hs := fun q j hq => (f_X10_set h1 q j (by unfold T_X4_readBox at hq; unfold T_X10_set; omega)).trans (hs q j hq)
      refine f_mob hf (fun r31 σ32 h1 hf => ?_)
      have hs := fun q j hq => (f_X10_of h1 q j (by unfold T_X10_of; exact id)).trans (hs q j hq)
      refine f_ite hf (fun hf => ?_) (fun hf => ?_)
      · exact fun q j hq => (f_X4_readBox_b211 hf q j hq).trans (hs q j hq)
      · refine f_mob hf (fun r33 σ34 h1 hf => ?_)
        have hs := fun q j hq => (f_X10_of h1 q j (by unfold T_X10_of; exact id)).trans (hs q j hq)
        refine f_ite hf (fun hf => ?_) (fun hf => ?_)
        · exact fun q j hq => (f_X4_readBox_b211 hf q j hq).trans (hs q j hq)
        · refine f_mob hf (fun r35 σ36 h1 hf => ?_)
          have hs := fun q j hq => (f_X10_of h1 q j (by unfold T_X10_of; exact id)).trans (hs q j hq)
          refine f_ite hf (fun hf => ?_) (fun hf => ?_)
          · exact fun q j hq => (f_X4_readBox_b211 hf q j hq).trans (hs q j hq)
          · refine f_mob hf (fun r37 σ38 h1 hf => ?_)
            have hs := fun q j hq => (f_X10_of h1 q j (by unfold T_X10_of; exact id)).trans (hs q j hq)
            refine f_ite hf (fun hf => ?_) (fun hf => ?_)
            · exact fun q j hq => (f_X4_readBox_b211 hf q j hq).trans (hs q j hq)
            · exact fun q j hq => (f_X4_readBox_b212 hf q j hq).trans (hs q j hq)
    · exact fun q j hq => (f_X4_readBox_b59 hf q j hq).trans (hs q j hq)
def T_X4_readInto (w1 : Nat) (q j : Nat) : Prop := (q = 79 ∧ (j = 3 ∨ j = 4 ∨ j = 5)) ∨ q = 80 ∨ (q = w1 ∧ (j = 3 ∨ j = 4 ∨ j = 5)) ∨ q = (w1 + 1)
theorem f_X4_readInto_b182 {F : Nat} {w1 : Nat} {r : Int} {σ' : mMem}   {x5 : Int} {σ : mMem} (hf : g_X4_readInto_b182 F w1 x5 σ = some (r, σ')) : ∀ q j, ¬ T_X4_readInto w1 q j → σ' q j = σ q j := by
  unfold g_X4_readInto_b182 at hf
  have hs : ∀ q j, ¬ T_X4_readInto w1 q j → σ q j = σ q j := fun _ _ _ => rfl
  refine f_gd hf (fun hf => ?_)
  cases hf
  exact hs
theorem f_X4_readInto_b169 {F : Nat} {w1 : Nat} {r : Int} {σ' : mMem}   {x5 : Int} {σ : mMem} (hf : g_X4_readInto_b169 F w1 x5 σ = some (r, σ')) : ∀ q j, ¬ T_X4_readInto w1 q j → σ' q j = σ q j := by
  unfold g_X4_readInto_b169 at hf
  have hs : ∀ q j, ¬ T_X4_readInto w1 q j → σ q j = σ q j := fun _ _ _ => rfl
  refine f_ite hf (fun hf => ?_) (fun hf => ?_)
  · exact fun q j hq => (f_X4_readInto_b182 hf q j hq).trans (hs q j hq)
  · refine f_mob hf (fun r520 σ521 h1 hf => ?_)
    have hs := fun q j hq => (f_X10_copyFrom h1 q j (by unfold T_X4_readInto at hq; unfold T_X10_copyFrom; omega)).trans (hs q j hq)
    exact fun q j hq => (f_X4_readInto_b182 hf q j hq).trans (hs q j hq)
theorem f_X4_readInto_h137 {F : Nat} {w1 : Nat} {r : Int} {σ' : mMem}   (n : Nat) : ∀ {x5 x6 : Int} {σ : mMem} (_ : g_X4_readInto_h137 F w1 n x5 x6 σ = some (r, σ')), ∀ q j, ¬ T_X4_readInto w1 q j → σ' q j = σ q j := by
  induction n with
  | zero =>
    intro x5 x6 σ hf
    unfold g_X4_readInto_h137 at hf
    cases hf
  | succ n ih =>
    have hk137 : ∀ (x5 x6 : Int) (σ : mMem), g_X4_readInto_h137 F w1 n x5 x6 σ = some (r, σ') → ∀ q j, ¬ T_X4_readInto w1 q j → σ' q j = σ q j := fun x5 x6 σ hf => ih hf
    intro x5 x6 σ hf
    unfold g_X4_readInto_h137 at hf
    have hs : ∀ q j, ¬ T_X4_readInto w1 q j → σ q j = σ q j := fun _ _ _ => rfl
    refine f_ite hf (fun hf => ?_) (fun hf => ?_)
    · exact fun q j hq => (f_X4_readInto_b169 hf q j hq).trans (hs q j hq)
    · refine f_gp hf (fun hg417 hf => ?_)
      refine f_ite hf (fun hf => ?_) (fun hf => ?_)
      · exact fun q j hq => (f_X4_readInto_b169 hf q j hq).trans (hs q j hq)
      · refine f_mob hf (fun r418 σ419 h1 hf => ?_)
        have hs := fun q j hq => (f_X4_readBox h1 q j (by unfold T_X4_readInto at hq; unfold T_X4_readBox; omega)).trans (hs q j hq)
        exact fun q j hq => (hk137 _ _ _ hf q j hq).trans (hs q j hq)
theorem f_X4_readInto_b132 {F : Nat} {w1 : Nat} {r : Int} {σ' : mMem}   {t0 : Int} {σ : mMem} (hf : g_X4_readInto_b132 F w1 t0 σ = some (r, σ')) : ∀ q j, ¬ T_X4_readInto w1 q j → σ' q j = σ q j := by
  unfold g_X4_readInto_b132 at hf
  have hs : ∀ q j, ¬ T_X4_readInto w1 q j → σ q j = σ q j := fun _ _ _ => rfl
  exact fun q j hq => (f_X4_readInto_h137 _ hf q j hq).trans (hs q j hq)
theorem f_X4_readInto_b131 {F : Nat} {w1 : Nat} {r : Int} {σ' : mMem}   {σ : mMem} (hf : g_X4_readInto_b131 F w1  σ = some (r, σ')) : ∀ q j, ¬ T_X4_readInto w1 q j → σ' q j = σ q j := by
  unfold g_X4_readInto_b131 at hf
  have hs : ∀ q j, ¬ T_X4_readInto w1 q j → σ q j = σ q j := fun _ _ _ => rfl
  exact fun q j hq => (f_X4_readInto_b132 hf q j hq).trans (hs q j hq)
theorem f_X4_readInto_h33 {F : Nat} {w1 : Nat} {r : Int} {σ' : mMem}   (n : Nat) : ∀ {x3 x4 x5 : Int} {σ : mMem} (_ : g_X4_readInto_h33 F w1 n x3 x4 x5 σ = some (r, σ')), ∀ q j, ¬ T_X4_readInto w1 q j → σ' q j = σ q j := by
  induction n with
  | zero =>
    intro x3 x4 x5 σ hf
    unfold g_X4_readInto_h33 at hf
    cases hf
  | succ n ih =>
    have hk33 : ∀ (x3 x4 x5 : Int) (σ : mMem), g_X4_readInto_h33 F w1 n x3 x4 x5 σ = some (r, σ') → ∀ q j, ¬ T_X4_readInto w1 q j → σ' q j = σ q j := fun x3 x4 x5 σ hf => ih hf
    intro x3 x4 x5 σ hf
    unfold g_X4_readInto_h33 at hf
    have hs : ∀ q j, ¬ T_X4_readInto w1 q j → σ q j = σ q j := fun _ _ _ => rfl
    refine f_ite hf (fun hf => ?_) (fun hf => ?_)
    · refine f_mob hf (fun r103 σ104 h1 hf => ?_)
      have hs := fun q j hq => (f_X7_at h1 q j (by unfold T_X7_at; exact id)).trans (hs q j hq)
      refine f_ite hf (fun hf => ?_) (fun hf => ?_)
      · refine f_mob hf (fun r105 σ106 h1 hf => ?_)
        have hs := fun q j hq => (f_X10_copyFrom h1 q j (by unfold T_X4_readInto at hq; unfold T_X10_copyFrom; omega)).trans (hs q j hq)
        refine f_mob hf (fun r107 σ108 h1 hf => ?_)
        have hs := fun q j hq => (f_X7_pairAt h1 q j (by unfold T_X7_pairAt; exact id)).trans (hs q j hq)
        refine f_mem hf (fun q j hq => (mup_ne (by unfold T_X4_readInto at hq; omega)).trans (hs q j hq)) (fun σ109 hs hf => ?_)
        refine f_mob hf (fun r110 σ111 h1 hf => ?_)
        have hs := fun q j hq => (f_X7_at h1 q j (by unfold T_X7_at; exact id)).trans (hs q j hq)
        refine f_mem hf (fun q j hq => (mup_ne (by unfold T_X4_readInto at hq; omega)).trans (hs q j hq)) (fun σ112 hs hf => ?_)
        refine f_ite hf (fun hf => ?_) (fun hf => ?_)
        · exact fun q j hq => (f_X4_readInto_b131 hf q j hq).trans (hs q j hq)
        · refine f_ite hf (fun hf => ?_) (fun hf => ?_)
          · exact fun q j hq => (f_X4_readInto_b131 hf q j hq).trans (hs q j hq)
          · exact fun q j hq => (f_X4_readInto_b132 hf q j hq).trans (hs q j hq)
      · refine f_gd hf (fun hf => ?_)
        cases hf
        exact hs
    · refine f_mob hf (fun r113 σ114 h1 hf => ?_)
      have hs := fun q j hq => (f_X7_at h1 q j (by unfold T_X7_at; exact id)).trans (hs q j hq)
      refine f_mob hf (fun r115 σ116 h1 hf => ?_)
      have hs := fun q j hq => (f_X4_checkedBy h1 q j (by unfold T_X4_checkedBy; exact id)).trans (hs q j hq)
      exact fun q j hq => (hk33 _ _ _ _ hf q j hq).trans (hs q j hq)
theorem f_X4_readInto {F : Nat} {w1 : Nat} {r : Int} {σ' : mMem} {σ : mMem} (hf : g_X4_readInto F w1 σ = some (r, σ')) : ∀ q j, ¬ T_X4_readInto w1 q j → σ' q j = σ q j := by
  unfold g_X4_readInto at hf
  have hs : ∀ q j, ¬ T_X4_readInto w1 q j → σ q j = σ q j := fun _ _ _ => rfl
  refine f_let hf (fun y1 hf => ?_)
  refine f_gp hf (fun hg2 hf => ?_)
  refine f_ite hf (fun hf => ?_) (fun hf => ?_)
  · exact fun q j hq => (f_X4_readInto_h33 _ hf q j hq).trans (hs q j hq)
  · refine f_gd hf (fun hf => ?_)
    cases hf
    exact hs
def T_X5_clear (o : Nat) (q j : Nat) : Prop := (q = o ∧ (j = 4 ∨ j = 5 ∨ j = 6 ∨ j = 7 ∨ j = 8 ∨ j = 9 ∨ j = 10 ∨ j = 11 ∨ j = 12 ∨ j = 13 ∨ j = 14)) ∨ q = (o + 1) ∨ q = (o + 2) ∨ q = (o + 3)
theorem f_X5_clear {F : Nat} {o : Nat} {r : Int} {σ' : mMem} {σ : mMem} (hf : g_X5_clear F o σ = some (r, σ')) : ∀ q j, ¬ T_X5_clear o q j → σ' q j = σ q j := by
  unfold g_X5_clear at hf
  have hs : ∀ q j, ¬ T_X5_clear o q j → σ q j = σ q j := fun _ _ _ => rfl
  refine f_mob hf (fun r1 σ2 h1 hf => ?_)
  have hs := fun q j hq => (f_J7_fill_53178 h1 q j (by unfold T_X5_clear at hq; unfold T_J7_fill_53178; omega)).trans (hs q j hq)
  refine f_mob hf (fun r3 σ4 h1 hf => ?_)
  have hs := fun q j hq => (f_J7_fill_53178 h1 q j (by unfold T_X5_clear at hq; unfold T_J7_fill_53178; omega)).trans (hs q j hq)
  refine f_mob hf (fun r5 σ6 h1 hf => ?_)
  have hs := fun q j hq => (f_J7_fill_53178 h1 q j (by unfold T_X5_clear at hq; unfold T_J7_fill_53178; omega)).trans (hs q j hq)
  refine f_mem hf (fun q j hq => (mup_ne (by unfold T_X5_clear at hq; omega)).trans (hs q j hq)) (fun σ7 hs hf => ?_)
  refine f_mem hf (fun q j hq => (mup_ne (by unfold T_X5_clear at hq; omega)).trans (hs q j hq)) (fun σ8 hs hf => ?_)
  refine f_mem hf (fun q j hq => (mup_ne (by unfold T_X5_clear at hq; omega)).trans (hs q j hq)) (fun σ9 hs hf => ?_)
  refine f_mem hf (fun q j hq => (mup_ne (by unfold T_X5_clear at hq; omega)).trans (hs q j hq)) (fun σ10 hs hf => ?_)
  refine f_mem hf (fun q j hq => (mup_ne (by unfold T_X5_clear at hq; omega)).trans (hs q j hq)) (fun σ11 hs hf => ?_)
  refine f_mem hf (fun q j hq => (mup_ne (by unfold T_X5_clear at hq; omega)).trans (hs q j hq)) (fun σ12 hs hf => ?_)
  refine f_mem hf (fun q j hq => (mup_ne (by unfold T_X5_clear at hq; omega)).trans (hs q j hq)) (fun σ13 hs hf => ?_)
  refine f_mem hf (fun q j hq => (mup_ne (by unfold T_X5_clear at hq; omega)).trans (hs q j hq)) (fun σ14 hs hf => ?_)
  refine f_mem hf (fun q j hq => (mup_ne (by unfold T_X5_clear at hq; omega)).trans (hs q j hq)) (fun σ15 hs hf => ?_)
  refine f_mem hf (fun q j hq => (mup_ne (by unfold T_X5_clear at hq; omega)).trans (hs q j hq)) (fun σ16 hs hf => ?_)
  refine f_mem hf (fun q j hq => (mup_ne (by unfold T_X5_clear at hq; omega)).trans (hs q j hq)) (fun σ17 hs hf => ?_)
  cases hf
  exact hs
def T_X5_shiftOf  (q j : Nat) : Prop := False
theorem f_X5_shiftOf {F : Nat}  {r : Int} {σ' : mMem} {x0 : Int} {σ : mMem} (hf : g_X5_shiftOf F x0 σ = some (r, σ')) : ∀ q j, ¬ T_X5_shiftOf  q j → σ' q j = σ q j := by
  unfold g_X5_shiftOf at hf
  have hs : ∀ q j, ¬ T_X5_shiftOf  q j → σ q j = σ q j := fun _ _ _ => rfl
  cases hf
  exact hs
def T_X5_hasBox (o : Nat) (q j : Nat) : Prop := False
theorem f_X5_hasBox_b23 {F : Nat} {o : Nat} {r : Int} {σ' : mMem}   {t0 : Int} {σ : mMem} (hf : g_X5_hasBox_b23 F o t0 σ = some (r, σ')) : ∀ q j, ¬ T_X5_hasBox o q j → σ' q j = σ q j := by
  unfold g_X5_hasBox_b23 at hf
  have hs : ∀ q j, ¬ T_X5_hasBox o q j → σ q j = σ q j := fun _ _ _ => rfl
  refine f_gd hf (fun hf => ?_)
  cases hf
  exact hs
theorem f_X5_hasBox_b22 {F : Nat} {o : Nat} {r : Int} {σ' : mMem}   {σ : mMem} (hf : g_X5_hasBox_b22 F o  σ = some (r, σ')) : ∀ q j, ¬ T_X5_hasBox o q j → σ' q j = σ q j := by
  unfold g_X5_hasBox_b22 at hf
  have hs : ∀ q j, ¬ T_X5_hasBox o q j → σ q j = σ q j := fun _ _ _ => rfl
  exact fun q j hq => (f_X5_hasBox_b23 hf q j hq).trans (hs q j hq)
theorem f_X5_hasBox {F : Nat} {o : Nat} {r : Int} {σ' : mMem} {x1 : Int} {σ : mMem} (hf : g_X5_hasBox F o x1 σ = some (r, σ')) : ∀ q j, ¬ T_X5_hasBox o q j → σ' q j = σ q j := by
  unfold g_X5_hasBox at hf
  have hs : ∀ q j, ¬ T_X5_hasBox o q j → σ q j = σ q j := fun _ _ _ => rfl
  refine f_ite hf (fun hf => ?_) (fun hf => ?_)
  · exact fun q j hq => (f_X5_hasBox_b22 hf q j hq).trans (hs q j hq)
  · refine f_ite hf (fun hf => ?_) (fun hf => ?_)
    · exact fun q j hq => (f_X5_hasBox_b22 hf q j hq).trans (hs q j hq)
    · refine f_ite hf (fun hf => ?_) (fun hf => ?_)
      · exact fun q j hq => (f_X5_hasBox_b22 hf q j hq).trans (hs q j hq)
      · exact fun q j hq => (f_X5_hasBox_b23 hf q j hq).trans (hs q j hq)
def T_X5_setGrey (o : Nat) (q j : Nat) : Prop := q = (o + 1)
theorem f_X5_setGrey_b35 {F : Nat} {o : Nat} {r : Int} {σ' : mMem}   {σ : mMem} (hf : g_X5_setGrey_b35 F o  σ = some (r, σ')) : ∀ q j, ¬ T_X5_setGrey o q j → σ' q j = σ q j := by
  unfold g_X5_setGrey_b35 at hf
  have hs : ∀ q j, ¬ T_X5_setGrey o q j → σ q j = σ q j := fun _ _ _ => rfl
  cases hf
  exact hs
theorem f_X5_setGrey {F : Nat} {o : Nat} {r : Int} {σ' : mMem} {x1 x2 x3 : Int} {σ : mMem} (hf : g_X5_setGrey F o x1 x2 x3 σ = some (r, σ')) : ∀ q j, ¬ T_X5_setGrey o q j → σ' q j = σ q j := by
  unfold g_X5_setGrey at hf
  have hs : ∀ q j, ¬ T_X5_setGrey o q j → σ q j = σ q j := fun _ _ _ => rfl
  refine f_let hf (fun y1 hf => ?_)
  refine f_mob hf (fun r2 σ3 h1 hf => ?_)
  have hs := fun q j hq => (f_X5_hasCell h1 q j (by unfold T_X5_hasCell; exact id)).trans (hs q j hq)
  refine f_ite hf (fun hf => ?_) (fun hf => ?_)
  · exact fun q j hq => (f_X5_setGrey_b35 hf q j hq).trans (hs q j hq)
  · refine f_ite hf (fun hf => ?_) (fun hf => ?_)
    · exact fun q j hq => (f_X5_setGrey_b35 hf q j hq).trans (hs q j hq)
    · refine f_gd hf (fun hf => ?_)
      refine f_mem hf (fun q j hq => (mup_ne (by unfold T_X5_setGrey at hq; omega)).trans (hs q j hq)) (fun σ4 hs hf => ?_)
      exact fun q j hq => (f_X5_setGrey_b35 hf q j hq).trans (hs q j hq)
def T_X5_boxNamed (o : Nat) (q j : Nat) : Prop := False
theorem f_X5_boxNamed_b34 {F : Nat} {o : Nat} {r : Int} {σ' : mMem}   {σ : mMem} (hf : g_X5_boxNamed_b34 F o  σ = some (r, σ')) : ∀ q j, ¬ T_X5_boxNamed o q j → σ' q j = σ q j := by
  unfold g_X5_boxNamed_b34 at hf
  have hs : ∀ q j, ¬ T_X5_boxNamed o q j → σ q j = σ q j := fun _ _ _ => rfl
  cases hf
  exact hs
theorem f_X5_boxNamed_h2 {F : Nat} {o : Nat} {r : Int} {σ' : mMem}   (n : Nat) : ∀ {x1 x2 : Int} {σ : mMem} (_ : g_X5_boxNamed_h2 F o n x1 x2 σ = some (r, σ')), ∀ q j, ¬ T_X5_boxNamed o q j → σ' q j = σ q j := by
  induction n with
  | zero =>
    intro x1 x2 σ hf
    unfold g_X5_boxNamed_h2 at hf
    cases hf
  | succ n ih =>
    have hk2 : ∀ (x1 x2 : Int) (σ : mMem), g_X5_boxNamed_h2 F o n x1 x2 σ = some (r, σ') → ∀ q j, ¬ T_X5_boxNamed o q j → σ' q j = σ q j := fun x1 x2 σ hf => ih hf
    intro x1 x2 σ hf
    unfold g_X5_boxNamed_h2 at hf
    have hs : ∀ q j, ¬ T_X5_boxNamed o q j → σ q j = σ q j := fun _ _ _ => rfl
    refine f_ite hf (fun hf => ?_) (fun hf => ?_)
    · exact fun q j hq => (f_X5_boxNamed_b34 hf q j hq).trans (hs q j hq)
    · refine f_ite hf (fun hf => ?_) (fun hf => ?_)
      · exact fun q j hq => (f_X5_boxNamed_b34 hf q j hq).trans (hs q j hq)
      · refine f_gd hf (fun hf => ?_)
        refine f_ite hf (fun hf => ?_) (fun hf => ?_)
        · exact fun q j hq => (hk2 _ _ _ hf q j hq).trans (hs q j hq)
        · cases hf
          exact hs
theorem f_X5_boxNamed {F : Nat} {o : Nat} {r : Int} {σ' : mMem} {x1 : Int} {σ : mMem} (hf : g_X5_boxNamed F o x1 σ = some (r, σ')) : ∀ q j, ¬ T_X5_boxNamed o q j → σ' q j = σ q j := by
  unfold g_X5_boxNamed at hf
  have hs : ∀ q j, ¬ T_X5_boxNamed o q j → σ q j = σ q j := fun _ _ _ => rfl
  exact fun q j hq => (f_X5_boxNamed_h2 _ hf q j hq).trans (hs q j hq)
def T_X5_boxStartingOn (o : Nat) (q j : Nat) : Prop := False
theorem f_X5_boxStartingOn {F : Nat} {o : Nat} {r : Int} {σ' : mMem} {x1 x2 : Int} {σ : mMem} (hf : g_X5_boxStartingOn F o x1 x2 σ = some (r, σ')) : ∀ q j, ¬ T_X5_boxStartingOn o q j → σ' q j = σ q j := by
  unfold g_X5_boxStartingOn at hf
  have hs : ∀ q j, ¬ T_X5_boxStartingOn o q j → σ q j = σ q j := fun _ _ _ => rfl
  refine f_mob hf (fun r1 σ2 h1 hf => ?_)
  have hs := fun q j hq => (f_X10_boxIn h1 q j (by unfold T_X10_boxIn; exact id)).trans (hs q j hq)
  cases hf
  exact hs
def T_X5_setStart (o : Nat) (q j : Nat) : Prop := q = (o + 3)
theorem f_X5_setStart_b39 {F : Nat} {o : Nat} {r : Int} {σ' : mMem}   {σ : mMem} (hf : g_X5_setStart_b39 F o  σ = some (r, σ')) : ∀ q j, ¬ T_X5_setStart o q j → σ' q j = σ q j := by
  unfold g_X5_setStart_b39 at hf
  have hs : ∀ q j, ¬ T_X5_setStart o q j → σ q j = σ q j := fun _ _ _ => rfl
  cases hf
  exact hs
theorem f_X5_setStart {F : Nat} {o : Nat} {r : Int} {σ' : mMem} {x1 x2 x3 : Int} {σ : mMem} (hf : g_X5_setStart F o x1 x2 x3 σ = some (r, σ')) : ∀ q j, ¬ T_X5_setStart o q j → σ' q j = σ q j := by
  unfold g_X5_setStart at hf
  have hs : ∀ q j, ¬ T_X5_setStart o q j → σ q j = σ q j := fun _ _ _ => rfl
  refine f_let hf (fun y1 hf => ?_)
  refine f_mob hf (fun r2 σ3 h1 hf => ?_)
  have hs := fun q j hq => (f_X5_hasBox h1 q j (by unfold T_X5_hasBox; exact id)).trans (hs q j hq)
  refine f_ite hf (fun hf => ?_) (fun hf => ?_)
  · exact fun q j hq => (f_X5_setStart_b39 hf q j hq).trans (hs q j hq)
  · refine f_ite hf (fun hf => ?_) (fun hf => ?_)
    · exact fun q j hq => (f_X5_setStart_b39 hf q j hq).trans (hs q j hq)
    · refine f_ite hf (fun hf => ?_) (fun hf => ?_)
      · exact fun q j hq => (f_X5_setStart_b39 hf q j hq).trans (hs q j hq)
      · refine f_gd hf (fun hf => ?_)
        refine f_mem hf (fun q j hq => (mup_ne (by unfold T_X5_setStart at hq; omega)).trans (hs q j hq)) (fun σ4 hs hf => ?_)
        exact fun q j hq => (f_X5_setStart_b39 hf q j hq).trans (hs q j hq)
def T_X5_addBox (o : Nat) (q j : Nat) : Prop := (q = o ∧ (j = 11)) ∨ q = (o + 2) ∨ q = (o + 3)
theorem f_X5_addBox_b16 {F : Nat} {o : Nat} {r : Int} {σ' : mMem}   {σ : mMem} (hf : g_X5_addBox_b16 F o  σ = some (r, σ')) : ∀ q j, ¬ T_X5_addBox o q j → σ' q j = σ q j := by
  unfold g_X5_addBox_b16 at hf
  have hs : ∀ q j, ¬ T_X5_addBox o q j → σ q j = σ q j := fun _ _ _ => rfl
  cases hf
  exact hs
theorem f_X5_addBox {F : Nat} {o : Nat} {r : Int} {σ' : mMem} {x1 x2 x3 x4 : Int} {σ : mMem} (hf : g_X5_addBox F o x1 x2 x3 x4 σ = some (r, σ')) : ∀ q j, ¬ T_X5_addBox o q j → σ' q j = σ q j := by
  unfold g_X5_addBox at hf
  have hs : ∀ q j, ¬ T_X5_addBox o q j → σ q j = σ q j := fun _ _ _ => rfl
  refine f_ite hf (fun hf => ?_) (fun hf => ?_)
  · exact fun q j hq => (f_X5_addBox_b16 hf q j hq).trans (hs q j hq)
  · refine f_ite hf (fun hf => ?_) (fun hf => ?_)
    · refine f_gd hf (fun hf => ?_)
      refine f_mem hf (fun q j hq => (mup_ne (by unfold T_X5_addBox at hq; omega)).trans (hs q j hq)) (fun σ1 hs hf => ?_)
      refine f_mem hf (fun q j hq => (mup_ne (by unfold T_X5_addBox at hq; omega)).trans (hs q j hq)) (fun σ2 hs hf => ?_)
      refine f_mob hf (fun r3 σ4 h1 hf => ?_)
      have hs := fun q j hq => (f_X5_setStart h1 q j (by unfold T_X5_addBox at hq; unfold T_X5_setStart; omega)).trans (hs q j hq)
      refine f_mob hf (fun r5 σ6 h1 hf => ?_)
      have hs := fun q j hq => (f_X5_setStart h1 q j (by unfold T_X5_addBox at hq; unfold T_X5_setStart; omega)).trans (hs q j hq)
      refine f_mob hf (fun r7 σ8 h1 hf => ?_)
      have hs := fun q j hq => (f_X5_setStart h1 q j (by unfold T_X5_addBox at hq; unfold T_X5_setStart; omega)).trans (hs q j hq)
      refine f_mob hf (fun r9 σ10 h1 hf => ?_)
      have hs := fun q j hq => (f_X5_setStart h1 q j (by unfold T_X5_addBox at hq; unfold T_X5_setStart; omega)).trans (hs q j hq)
      refine f_mob hf (fun r11 σ12 h1 hf => ?_)
      have hs := fun q j hq => (f_X5_setStart h1 q j (by unfold T_X5_addBox at hq; unfold T_X5_setStart; omega)).trans (hs q j hq)
      cases hf
      exact hs
    · exact fun q j hq => (f_X5_addBox_b16 hf q j hq).trans (hs q j hq)
def T_X6_takeBoxName  (q j : Nat) : Prop := (q = 14 ∧ (j = 6 ∨ j = 7 ∨ j = 8 ∨ j = 9 ∨ j = 10 ∨ j = 11))
theorem f_X6_takeBoxName_b50 {F : Nat}  {r : Int} {σ' : mMem}   {x1 : Int} {σ : mMem} (hf : g_X6_takeBoxName_b50 F x1 σ = some (r, σ')) : ∀ q j, ¬ T_X6_takeBoxName  q j → σ' q j = σ q j := by
  unfold g_X6_takeBoxName_b50 at hf
  have hs : ∀ q j, ¬ T_X6_takeBoxName  q j → σ q j = σ q j := fun _ _ _ => rfl
  refine f_mob hf (fun r108 σ109 h1 hf => ?_)
  have hs := fun q j hq => (f_X8_next h1 q j (by unfold T_X6_takeBoxName at hq; unfold T_X8_next; omega)).trans (hs q j hq)
  cases hf
  exact hs
theorem f_X6_takeBoxName {F : Nat}  {r : Int} {σ' : mMem} {σ : mMem} (hf : g_X6_takeBoxName F σ = some (r, σ')) : ∀ q j, ¬ T_X6_takeBoxName  q j → σ' q j = σ q j := by
  unfold g_X6_takeBoxName at hf
  have hs : ∀ q j, ¬ T_X6_takeBoxName  q j → σ q j = σ q j := fun _ _ _ => rfl
  refine f_gp hf (fun hg1 hf => ?_)
  refine f_mob hf (fun r2 σ3 h1 hf => ?_)
  have hs := fun q j hq => (f_X5_boxNamed h1 q j (by unfold T_X5_boxNamed; exact id)).trans (hs q j hq)
  refine f_ite hf (fun hf => ?_) (fun hf => ?_)
  · refine f_ite hf (fun hf => ?_) (fun hf => ?_)
    · exact fun q j hq => (f_X6_takeBoxName_b50 hf q j hq).trans (hs q j hq)
    · refine f_mob hf (fun r4 σ5 h1 hf => ?_)
      have hs := fun q j hq => (f_X8_refuseHere h1 q j (by unfold T_X6_takeBoxName at hq; unfold T_X8_refuseHere; omega)).trans (hs q j hq)
      exact fun q j hq => (f_X6_takeBoxName_b50 hf q j hq).trans (hs q j hq)
  · refine f_mob hf (fun r6 σ7 h1 hf => ?_)
    have hs := fun q j hq => (f_X8_refuseHere h1 q j (by unfold T_X6_takeBoxName at hq; unfold T_X8_refuseHere; omega)).trans (hs q j hq)
    exact fun q j hq => (f_X6_takeBoxName_b50 hf q j hq).trans (hs q j hq)
def T_X8_takeNumber  (q j : Nat) : Prop := (q = 14 ∧ (j = 6 ∨ j = 7 ∨ j = 8 ∨ j = 9 ∨ j = 10 ∨ j = 11))
theorem f_X8_takeNumber_b37 {F : Nat}  {r : Int} {σ' : mMem}   {σ : mMem} (hf : g_X8_takeNumber_b37 F  σ = some (r, σ')) : ∀ q j, ¬ T_X8_takeNumber  q j → σ' q j = σ q j := by
  unfold g_X8_takeNumber_b37 at hf
  have hs : ∀ q j, ¬ T_X8_takeNumber  q j → σ q j = σ q j := fun _ _ _ => rfl
  refine f_let hf (fun y103 hf => ?_)
  refine f_mob hf (fun r104 σ105 h1 hf => ?_)
  have hs := fun q j hq => (f_X8_next h1 q j (by unfold T_X8_takeNumber at hq; unfold T_X8_next; omega)).trans (hs q j hq)
  cases hf
  exact hs
theorem f_X8_takeNumber_b32 {F : Nat}  {r : Int} {σ' : mMem}   {σ : mMem} (hf : g_X8_takeNumber_b32 F  σ = some (r, σ')) : ∀ q j, ¬ T_X8_takeNumber  q j → σ' q j = σ q j := by
  unfold g_X8_takeNumber_b32 at hf
  have hs : ∀ q j, ¬ T_X8_takeNumber  q j → σ q j = σ q j := fun _ _ _ => rfl
  refine f_mob hf (fun r206 σ207 h1 hf => ?_)
  have hs := fun q j hq => (f_X8_refuseHere h1 q j (by unfold T_X8_takeNumber at hq; unfold T_X8_refuseHere; omega)).trans (hs q j hq)
  exact fun q j hq => (f_X8_takeNumber_b37 hf q j hq).trans (hs q j hq)
theorem f_X8_takeNumber {F : Nat}  {r : Int} {σ' : mMem} {x1 x2 : Int} {σ : mMem} (hf : g_X8_takeNumber F x1 x2 σ = some (r, σ')) : ∀ q j, ¬ T_X8_takeNumber  q j → σ' q j = σ q j := by
  unfold g_X8_takeNumber at hf
  have hs : ∀ q j, ¬ T_X8_takeNumber  q j → σ q j = σ q j := fun _ _ _ => rfl
  refine f_ite hf (fun hf => ?_) (fun hf => ?_)
  · refine f_ite hf (fun hf => ?_) (fun hf => ?_)
    · exact fun q j hq => (f_X8_takeNumber_b32 hf q j hq).trans (hs q j hq)
    · refine f_ite hf (fun hf => ?_) (fun hf => ?_)
      · exact fun q j hq => (f_X8_takeNumber_b37 hf q j hq).trans (hs q j hq)
      · exact fun q j hq => (f_X8_takeNumber_b32 hf q j hq).trans (hs q j hq)
  · refine f_mob hf (fun r1 σ2 h1 hf => ?_)
    have hs := fun q j hq => (f_X8_refuseHere h1 q j (by unfold T_X8_takeNumber at hq; unfold T_X8_refuseHere; omega)).trans (hs q j hq)
    exact fun q j hq => (f_X8_takeNumber_b37 hf q j hq).trans (hs q j hq)
def T_X6_readBias  (q j : Nat) : Prop := q = 6 ∨ q = 11 ∨ (q = 14 ∧ (j = 6 ∨ j = 7 ∨ j = 8 ∨ j = 9 ∨ j = 10 ∨ j = 11))
theorem f_X6_readBias {F : Nat}  {r : Int} {σ' : mMem} {σ : mMem} (hf : g_X6_readBias F σ = some (r, σ')) : ∀ q j, ¬ T_X6_readBias  q j → σ' q j = σ q j := by
  unfold g_X6_readBias at hf
  have hs : ∀ q j, ¬ T_X6_readBias  q j → σ q j = σ q j := fun _ _ _ => rfl
  refine f_mob hf (fun r1 σ2 h1 hf => ?_)
  have hs := fun q j hq => (f_X8_next h1 q j (by unfold T_X6_readBias at hq; unfold T_X8_next; omega)).trans (hs q j hq)
  refine f_mob hf (fun r3 σ4 h1 hf => ?_)
  have hs := fun q j hq => (f_X6_takeBoxName h1 q j (by unfold T_X6_readBias at hq; unfold T_X6_takeBoxName; omega)).trans (hs q j hq)
  refine f_gp hf (fun hg5 hf => ?_)
  refine f_mob hf (fun r6 σ7 h1 hf => ?_)
  have hs := fun q j hq => (f_X8_takeNumber h1 q j (by unfold T_X6_readBias at hq; unfold T_X8_takeNumber; omega)).trans (hs q j hq)
  refine f_mob hf (fun r8 σ9 h1 hf => ?_)
  have hs := fun q j hq => (f_X5_setStart h1 q j (by unfold T_X6_readBias at hq; unfold T_X5_setStart; rcases hg5 with hz | hz <;> rw [hz] <;> omega)).trans (hs q j hq)
  cases hf
  exact hs
def T_X6_takeNewName  (q j : Nat) : Prop := (q = 14 ∧ (j = 6 ∨ j = 7 ∨ j = 8 ∨ j = 9 ∨ j = 10 ∨ j = 11))
theorem f_X6_takeNewName_b48 {F : Nat}  {r : Int} {σ' : mMem}   {σ : mMem} (hf : g_X6_takeNewName_b48 F  σ = some (r, σ')) : ∀ q j, ¬ T_X6_takeNewName  q j → σ' q j = σ q j := by
  unfold g_X6_takeNewName_b48 at hf
  have hs : ∀ q j, ¬ T_X6_takeNewName  q j → σ q j = σ q j := fun _ _ _ => rfl
  refine f_let hf (fun y108 hf => ?_)
  refine f_mob hf (fun r109 σ110 h1 hf => ?_)
  have hs := fun q j hq => (f_X8_next h1 q j (by unfold T_X6_takeNewName at hq; unfold T_X8_next; omega)).trans (hs q j hq)
  cases hf
  exact hs
theorem f_X6_takeNewName {F : Nat}  {r : Int} {σ' : mMem} {σ : mMem} (hf : g_X6_takeNewName F σ = some (r, σ')) : ∀ q j, ¬ T_X6_takeNewName  q j → σ' q j = σ q j := by
  unfold g_X6_takeNewName at hf
  have hs : ∀ q j, ¬ T_X6_takeNewName  q j → σ q j = σ q j := fun _ _ _ => rfl
  refine f_ite hf (fun hf => ?_) (fun hf => ?_)
  · refine f_gp hf (fun hg1 hf => ?_)
    refine f_mob hf (fun r2 σ3 h1 hf => ?_)
    have hs := fun q j hq => (f_X5_boxNamed h1 q j (by unfold T_X5_boxNamed; exact id)).trans (hs q j hq)
    refine f_ite hf (fun hf => ?_) (fun hf => ?_)
    · exact fun q j hq => (f_X6_takeNewName_b48 hf q j hq).trans (hs q j hq)
    · refine f_mob hf (fun r4 σ5 h1 hf => ?_)
      have hs := fun q j hq => (f_X8_refuseHere h1 q j (by unfold T_X6_takeNewName at hq; unfold T_X8_refuseHere; omega)).trans (hs q j hq)
      exact fun q j hq => (f_X6_takeNewName_b48 hf q j hq).trans (hs q j hq)
  · refine f_mob hf (fun r6 σ7 h1 hf => ?_)
    have hs := fun q j hq => (f_X8_refuseHere h1 q j (by unfold T_X6_takeNewName at hq; unfold T_X8_refuseHere; omega)).trans (hs q j hq)
    exact fun q j hq => (f_X6_takeNewName_b48 hf q j hq).trans (hs q j hq)
def T_X8_takeWord  (q j : Nat) : Prop := (q = 14 ∧ (j = 6 ∨ j = 7 ∨ j = 8 ∨ j = 9 ∨ j = 10 ∨ j = 11))
theorem f_X8_takeWord_b13 {F : Nat}  {r : Int} {σ' : mMem}   {σ : mMem} (hf : g_X8_takeWord_b13 F  σ = some (r, σ')) : ∀ q j, ¬ T_X8_takeWord  q j → σ' q j = σ q j := by
  unfold g_X8_takeWord_b13 at hf
  have hs : ∀ q j, ¬ T_X8_takeWord  q j → σ q j = σ q j := fun _ _ _ => rfl
  refine f_mob hf (fun r105 σ106 h1 hf => ?_)
  have hs := fun q j hq => (f_X8_next h1 q j (by unfold T_X8_takeWord at hq; unfold T_X8_next; omega)).trans (hs q j hq)
  cases hf
  exact hs
theorem f_X8_takeWord {F : Nat}  {r : Int} {σ' : mMem} {x1 : Int} {σ : mMem} (hf : g_X8_takeWord F x1 σ = some (r, σ')) : ∀ q j, ¬ T_X8_takeWord  q j → σ' q j = σ q j := by
  unfold g_X8_takeWord at hf
  have hs : ∀ q j, ¬ T_X8_takeWord  q j → σ q j = σ q j := fun _ _ _ => rfl
  refine f_mob hf (fun r1 σ2 h1 hf => ?_)
  have hs := fun q j hq => (f_X8_isWord h1 q j (by unfold T_X8_isWord; exact id)).trans (hs q j hq)
  refine f_ite hf (fun hf => ?_) (fun hf => ?_)
  · exact fun q j hq => (f_X8_takeWord_b13 hf q j hq).trans (hs q j hq)
  · refine f_mob hf (fun r3 σ4 h1 hf => ?_)
    have hs := fun q j hq => (f_X8_refuseHere h1 q j (by unfold T_X8_takeWord at hq; unfold T_X8_refuseHere; omega)).trans (hs q j hq)
    exact fun q j hq => (f_X8_takeWord_b13 hf q j hq).trans (hs q j hq)
def T_X6_readBox  (q j : Nat) : Prop := (q = 3 ∧ (j = 11)) ∨ q = 5 ∨ q = 6 ∨ (q = 8 ∧ (j = 11)) ∨ q = 10 ∨ q = 11 ∨ (q = 14 ∧ (j = 6 ∨ j = 7 ∨ j = 8 ∨ j = 9 ∨ j = 10 ∨ j = 11))
theorem f_X6_readBox_b76 {F : Nat}  {r : Int} {σ' : mMem}   {x1 x2 : Int} {σ : mMem} (hf : g_X6_readBox_b76 F x1 x2 σ = some (r, σ')) : ∀ q j, ¬ T_X6_readBox  q j → σ' q j = σ q j := by
  unfold g_X6_readBox_b76 at hf
  have hs : ∀ q j, ¬ T_X6_readBox  q j → σ q j = σ q j := fun _ _ _ => rfl
  refine f_gp hf (fun hg115 hf => ?_)
  refine f_mob hf (fun r116 σ117 h1 hf => ?_)
  have hs := fun q j hq => (f_X8_takeNumber h1 q j (by unfold T_X6_readBox at hq; unfold T_X8_takeNumber; omega)).trans (hs q j hq)
  refine f_mob hf (fun r118 σ119 h1 hf => ?_)
  have hs := fun q j hq => (f_X8_takeWord h1 q j (by unfold T_X6_readBox at hq; unfold T_X8_takeWord; omega)).trans (hs q j hq)
  refine f_gp hf (fun hg120 hf => ?_)
  refine f_mob hf (fun r121 σ122 h1 hf => ?_)
  have hs := fun q j hq => (f_X8_takeNumber h1 q j (by unfold T_X6_readBox at hq; unfold T_X8_takeNumber; omega)).trans (hs q j hq)
  refine f_mob hf (fun r123 σ124 h1 hf => ?_)
  have hs := fun q j hq => (f_X5_addBox h1 q j (by unfold T_X6_readBox at hq; unfold T_X5_addBox; rcases hg120 with hz | hz <;> rw [hz] <;> omega)).trans (hs q j hq)
  cases hf
  exact hs
theorem f_X6_readBox {F : Nat}  {r : Int} {σ' : mMem} {σ : mMem} (hf : g_X6_readBox F σ = some (r, σ')) : ∀ q j, ¬ T_X6_readBox  q j → σ' q j = σ q j := by
  unfold g_X6_readBox at hf
  have hs : ∀ q j, ¬ T_X6_readBox  q j → σ q j = σ q j := fun _ _ _ => rfl
  refine f_mob hf (fun r1 σ2 h1 hf => ?_)
  have hs := fun q j hq => (f_X8_next h1 q j (by unfold T_X6_readBox at hq; unfold T_X8_next; omega)).trans (hs q j hq)
  refine f_mob hf (fun r3 σ4 h1 hf => ?_)
  have hs := fun q j hq => (f_X6_takeNewName h1 q j (by unfold T_X6_readBox at hq; unfold T_X6_takeNewName; omega)).trans (hs q j hq)
  refine f_mob hf (fun r5 σ6 h1 hf => ?_)
  have hs := fun q j hq => (f_X8_takeWord h1 q j (by unfold T_X6_readBox at hq; unfold T_X8_takeWord; omega)).trans (hs q j hq)
  refine f_gp hf (fun hg7 hf => ?_)
  refine f_mob hf (fun r8 σ9 h1 hf => ?_)
  have hs := fun q j hq => (f_X8_takeNumber h1 q j (by unfold T_X6_readBox at hq; unfold T_X8_takeNumber; omega)).trans (hs q j hq)
  refine f_ite hf (fun hf => ?_) (fun hf => ?_)
  · exact fun q j hq => (f_X6_readBox_b76 hf q j hq).trans (hs q j hq)
  · refine f_gp hf (fun hg10 hf => ?_)
    refine f_mob hf (fun r11 σ12 h1 hf => ?_)
    have hs := fun q j hq => (f_X5_boxStartingOn h1 q j (by unfold T_X5_boxStartingOn; exact id)).trans (hs q j hq)
    refine f_ite hf (fun hf => ?_) (fun hf => ?_)
    · exact fun q j hq => (f_X6_readBox_b76 hf q j hq).trans (hs q j hq)
    · refine f_mob hf (fun r13 σ14 h1 hf => ?_)
      have hs := fun q j hq => (f_X8_refuseHere h1 q j (by unfold T_X6_readBox at hq; unfold T_X8_refuseHere; omega)).trans (hs q j hq)
      exact fun q j hq => (f_X6_readBox_b76 hf q j hq).trans (hs q j hq)
def T_X6_readEyes  (q j : Nat) : Prop := q = 6 ∨ q = 11 ∨ (q = 14 ∧ (j = 6 ∨ j = 7 ∨ j = 8 ∨ j = 9 ∨ j = 10 ∨ j = 11))
theorem f_X6_readEyes {F : Nat}  {r : Int} {σ' : mMem} {σ : mMem} (hf : g_X6_readEyes F σ = some (r, σ')) : ∀ q j, ¬ T_X6_readEyes  q j → σ' q j = σ q j := by
  unfold g_X6_readEyes at hf
  have hs : ∀ q j, ¬ T_X6_readEyes  q j → σ q j = σ q j := fun _ _ _ => rfl
  refine f_mob hf (fun r1 σ2 h1 hf => ?_)
  have hs := fun q j hq => (f_X8_next h1 q j (by unfold T_X6_readEyes at hq; unfold T_X8_next; omega)).trans (hs q j hq)
  refine f_mob hf (fun r3 σ4 h1 hf => ?_)
  have hs := fun q j hq => (f_X6_takeBoxName h1 q j (by unfold T_X6_readEyes at hq; unfold T_X6_takeBoxName; omega)).trans (hs q j hq)
  refine f_mob hf (fun r5 σ6 h1 hf => ?_)
  have hs := fun q j hq => (f_X8_takeWord h1 q j (by unfold T_X6_readEyes at hq; unfold T_X8_takeWord; omega)).trans (hs q j hq)
  refine f_gp hf (fun hg7 hf => ?_)
  refine f_mob hf (fun r8 σ9 h1 hf => ?_)
  have hs := fun q j hq => (f_X8_takeNumber h1 q j (by unfold T_X6_readEyes at hq; unfold T_X8_takeNumber; omega)).trans (hs q j hq)
  refine f_mob hf (fun r10 σ11 h1 hf => ?_)
  have hs := fun q j hq => (f_X5_setStart h1 q j (by unfold T_X6_readEyes at hq; unfold T_X5_setStart; rcases hg7 with hz | hz <;> rw [hz] <;> omega)).trans (hs q j hq)
  refine f_mob hf (fun r12 σ13 h1 hf => ?_)
  have hs := fun q j hq => (f_X8_takeWord h1 q j (by unfold T_X6_readEyes at hq; unfold T_X8_takeWord; omega)).trans (hs q j hq)
  refine f_gp hf (fun hg14 hf => ?_)
  refine f_mob hf (fun r15 σ16 h1 hf => ?_)
  have hs := fun q j hq => (f_X8_takeNumber h1 q j (by unfold T_X6_readEyes at hq; unfold T_X8_takeNumber; omega)).trans (hs q j hq)
  refine f_mob hf (fun r17 σ18 h1 hf => ?_)
  have hs := fun q j hq => (f_X5_setStart h1 q j (by unfold T_X6_readEyes at hq; unfold T_X5_setStart; rcases hg14 with hz | hz <;> rw [hz] <;> omega)).trans (hs q j hq)
  cases hf
  exact hs
def T_X6_readFloor  (q j : Nat) : Prop := (q = 3 ∧ (j = 9 ∨ j = 10)) ∨ (q = 8 ∧ (j = 9 ∨ j = 10)) ∨ (q = 14 ∧ (j = 6 ∨ j = 7 ∨ j = 8 ∨ j = 9 ∨ j = 10 ∨ j = 11))
theorem f_X6_readFloor {F : Nat}  {r : Int} {σ' : mMem} {σ : mMem} (hf : g_X6_readFloor F σ = some (r, σ')) : ∀ q j, ¬ T_X6_readFloor  q j → σ' q j = σ q j := by
  unfold g_X6_readFloor at hf
  have hs : ∀ q j, ¬ T_X6_readFloor  q j → σ q j = σ q j := fun _ _ _ => rfl
  refine f_mob hf (fun r1 σ2 h1 hf => ?_)
  have hs := fun q j hq => (f_X8_next h1 q j (by unfold T_X6_readFloor at hq; unfold T_X8_next; omega)).trans (hs q j hq)
  refine f_gp hf (fun hg3 hf => ?_)
  refine f_mob hf (fun r4 σ5 h1 hf => ?_)
  have hs := fun q j hq => (f_X8_takeNumber h1 q j (by unfold T_X6_readFloor at hq; unfold T_X8_takeNumber; omega)).trans (hs q j hq)
  refine f_mem hf (fun q j hq => (mup_ne (by unfold T_X6_readFloor at hq; rcases hg3 with hz | hz <;> rw [hz] <;> (try simp only [Int.toNat_natCast, Int.reduceToNat]) <;> omega)).trans (hs q j hq)) (fun σ6 hs hf => ?_)
  refine f_mob hf (fun r7 σ8 h1 hf => ?_)
  have hs := fun q j hq => (f_X8_takeWord h1 q j (by unfold T_X6_readFloor at hq; unfold T_X8_takeWord; omega)).trans (hs q j hq)
  refine f_gp hf (fun hg9 hf => ?_)
  refine f_mob hf (fun r10 σ11 h1 hf => ?_)
  have hs := fun q j hq => (f_X8_takeNumber h1 q j (by unfold T_X6_readFloor at hq; unfold T_X8_takeNumber; omega)).trans (hs q j hq)
  refine f_mem hf (fun q j hq => (mup_ne (by unfold T_X6_readFloor at hq; rcases hg9 with hz | hz <;> rw [hz] <;> (try simp only [Int.toNat_natCast, Int.reduceToNat]) <;> omega)).trans (hs q j hq)) (fun σ12 hs hf => ?_)
  cases hf
  exact hs
def T_X6_readGrey  (q j : Nat) : Prop := q = 4 ∨ q = 9 ∨ (q = 14 ∧ (j = 6 ∨ j = 7 ∨ j = 8 ∨ j = 9 ∨ j = 10 ∨ j = 11))
theorem f_X6_readGrey {F : Nat}  {r : Int} {σ' : mMem} {σ : mMem} (hf : g_X6_readGrey F σ = some (r, σ')) : ∀ q j, ¬ T_X6_readGrey  q j → σ' q j = σ q j := by
  unfold g_X6_readGrey at hf
  have hs : ∀ q j, ¬ T_X6_readGrey  q j → σ q j = σ q j := fun _ _ _ => rfl
  refine f_mob hf (fun r1 σ2 h1 hf => ?_)
  have hs := fun q j hq => (f_X8_next h1 q j (by unfold T_X6_readGrey at hq; unfold T_X8_next; omega)).trans (hs q j hq)
  refine f_gp hf (fun hg3 hf => ?_)
  refine f_mob hf (fun r4 σ5 h1 hf => ?_)
  have hs := fun q j hq => (f_X8_takeNumber h1 q j (by unfold T_X6_readGrey at hq; unfold T_X8_takeNumber; omega)).trans (hs q j hq)
  refine f_gp hf (fun hg6 hf => ?_)
  refine f_mob hf (fun r7 σ8 h1 hf => ?_)
  have hs := fun q j hq => (f_X8_takeNumber h1 q j (by unfold T_X6_readGrey at hq; unfold T_X8_takeNumber; omega)).trans (hs q j hq)
  refine f_gp hf (fun hg9 hf => ?_)
  refine f_mob hf (fun r10 σ11 h1 hf => ?_)
  have hs := fun q j hq => (f_X8_takeNumber h1 q j (by unfold T_X6_readGrey at hq; unfold T_X8_takeNumber; omega)).trans (hs q j hq)
  refine f_mob hf (fun r12 σ13 h1 hf => ?_)
  have hs := fun q j hq => (f_X5_setGrey h1 q j (by unfold T_X6_readGrey at hq; unfold T_X5_setGrey; rcases hg9 with hz | hz <;> rw [hz] <;> omega)).trans (hs q j hq)
  cases hf
  exact hs
def T_X6_readSetting  (q j : Nat) : Prop := (q = 3 ∧ (j = 12 ∨ j = 13 ∨ j = 14)) ∨ (q = 8 ∧ (j = 12 ∨ j = 13 ∨ j = 14)) ∨ (q = 14 ∧ (j = 6 ∨ j = 7 ∨ j = 8 ∨ j = 9 ∨ j = 10 ∨ j = 11))
theorem f_X6_readSetting_b108 {F : Nat}  {r : Int} {σ' : mMem}   {σ : mMem} (hf : g_X6_readSetting_b108 F  σ = some (r, σ')) : ∀ q j, ¬ T_X6_readSetting  q j → σ' q j = σ q j := by
  unfold g_X6_readSetting_b108 at hf
  have hs : ∀ q j, ¬ T_X6_readSetting  q j → σ q j = σ q j := fun _ _ _ => rfl
  cases hf
  exact hs
theorem f_X6_readSetting {F : Nat}  {r : Int} {σ' : mMem} {x1 : Int} {σ : mMem} (hf : g_X6_readSetting F x1 σ = some (r, σ')) : ∀ q j, ¬ T_X6_readSetting  q j → σ' q j = σ q j := by
  unfold g_X6_readSetting at hf
  have hs : ∀ q j, ¬ T_X6_readSetting  q j → σ q j = σ q j := fun _ _ _ => rfl
  refine f_ite hf (fun hf => ?_) (fun hf => ?_)
  · refine f_ite hf (fun hf => ?_) (fun hf => ?_)
    · refine f_ite hf (fun hf => ?_) (fun hf => ?_)
      · refine f_mob hf (fun r1 σ2 h1 hf => ?_)
        have hs := fun q j hq => (f_X8_refuseHere h1 q j (by unfold T_X6_readSetting at hq; unfold T_X8_refuseHere; omega)).trans (hs q j hq)
        exact fun q j hq => (f_X6_readSetting_b108 hf q j hq).trans (hs q j hq)
      · refine f_mob hf (fun r3 σ4 h1 hf => ?_)
        have hs := fun q j hq => (f_X8_next h1 q j (by unfold T_X6_readSetting at hq; unfold T_X8_next; omega)).trans (hs q j hq)
        refine f_gp hf (fun hg5 hf => ?_)
        refine f_mob hf (fun r6 σ7 h1 hf => ?_)
        have hs := fun q j hq => (f_X8_takeNumber h1 q j (by unfold T_X6_readSetting at hq; unfold T_X8_takeNumber; omega)).trans (hs q j hq)
        refine f_mem hf (fun q j hq => (mup_ne (by unfold T_X6_readSetting at hq; rcases hg5 with hz | hz <;> rw [hz] <;> (try simp only [Int.toNat_natCast, Int.reduceToNat]) <;> omega)).trans (hs q j hq)) (fun σ8 hs hf => ?_)
        exact fun q j hq => (f_X6_readSetting_b108 hf q j hq).trans (hs q j hq)
    · refine f_mob hf (fun r9 σ10 h1 hf => ?_)
      have hs := fun q j hq => (f_X8_next h1 q j (by unfold T_X6_readSetting at hq; unfold T_X8_next; omega)).trans (hs q j hq)
      refine f_gp hf (fun hg11 hf => ?_)
      refine f_mob hf (fun r12 σ13 h1 hf => ?_)
      have hs := fun q j hq => (f_X8_takeNumber h1 q j (by unfold T_X6_readSetting at hq; unfold T_X8_takeNumber; omega)).trans (hs q j hq)
      refine f_mem hf (fun q j hq => (mup_ne (by unfold T_X6_readSetting at hq; rcases hg11 with hz | hz <;> rw [hz] <;> (try simp only [Int.toNat_natCast, Int.reduceToNat]) <;> omega)).trans (hs q j hq)) (fun σ14 hs hf => ?_)
      exact fun q j hq => (f_X6_readSetting_b108 hf q j hq).trans (hs q j hq)
  · refine f_mob hf (fun r15 σ16 h1 hf => ?_)
    have hs := fun q j hq => (f_X8_next h1 q j (by unfold T_X6_readSetting at hq; unfold T_X8_next; omega)).trans (hs q j hq)
    refine f_gp hf (fun hg17 hf => ?_)
    refine f_mob hf (fun r18 σ19 h1 hf => ?_)
    have hs := fun q j hq => (f_X8_takeNumber h1 q j (by unfold T_X6_readSetting at hq; unfold T_X8_takeNumber; omega)).trans (hs q j hq)
    refine f_mem hf (fun q j hq => (mup_ne (by unfold T_X6_readSetting at hq; rcases hg17 with hz | hz <;> rw [hz] <;> (try simp only [Int.toNat_natCast, Int.reduceToNat]) <;> omega)).trans (hs q j hq)) (fun σ20 hs hf => ?_)
    exact fun q j hq => (f_X6_readSetting_b108 hf q j hq).trans (hs q j hq)
def T_X6_refuseOneTooMany  (q j : Nat) : Prop := (q = 14 ∧ (j = 7 ∨ j = 9 ∨ j = 10 ∨ j = 11))
theorem f_X6_refuseOneTooMany_b90 {F : Nat}  {r : Int} {σ' : mMem}   {σ : mMem} (hf : g_X6_refuseOneTooMany_b90 F  σ = some (r, σ')) : ∀ q j, ¬ T_X6_refuseOneTooMany  q j → σ' q j = σ q j := by
  unfold g_X6_refuseOneTooMany_b90 at hf
  have hs : ∀ q j, ¬ T_X6_refuseOneTooMany  q j → σ q j = σ q j := fun _ _ _ => rfl
  cases hf
  exact hs
theorem f_X6_refuseOneTooMany_b81 {F : Nat}  {r : Int} {σ' : mMem}   {σ : mMem} (hf : g_X6_refuseOneTooMany_b81 F  σ = some (r, σ')) : ∀ q j, ¬ T_X6_refuseOneTooMany  q j → σ' q j = σ q j := by
  unfold g_X6_refuseOneTooMany_b81 at hf
  have hs : ∀ q j, ¬ T_X6_refuseOneTooMany  q j → σ q j = σ q j := fun _ _ _ => rfl
  refine f_mob hf (fun r808 σ809 h1 hf => ?_)
  have hs := fun q j hq => (f_X8_refuseHere h1 q j (by unfold T_X6_refuseOneTooMany at hq; unfold T_X8_refuseHere; omega)).trans (hs q j hq)
  exact fun q j hq => (f_X6_refuseOneTooMany_b90 hf q j hq).trans (hs q j hq)
theorem f_X6_refuseOneTooMany_b66 {F : Nat}  {r : Int} {σ' : mMem}   {x2 x3 t0 : Int} {σ : mMem} (hf : g_X6_refuseOneTooMany_b66 F x2 x3 t0 σ = some (r, σ')) : ∀ q j, ¬ T_X6_refuseOneTooMany  q j → σ' q j = σ q j := by
  unfold g_X6_refuseOneTooMany_b66 at hf
  have hs : ∀ q j, ¬ T_X6_refuseOneTooMany  q j → σ q j = σ q j := fun _ _ _ => rfl
  refine f_ite hf (fun hf => ?_) (fun hf => ?_)
  · exact fun q j hq => (f_X6_refuseOneTooMany_b81 hf q j hq).trans (hs q j hq)
  · refine f_ite hf (fun hf => ?_) (fun hf => ?_)
    · exact fun q j hq => (f_X6_refuseOneTooMany_b81 hf q j hq).trans (hs q j hq)
    · refine f_ite hf (fun hf => ?_) (fun hf => ?_)
      · exact fun q j hq => (f_X6_refuseOneTooMany_b90 hf q j hq).trans (hs q j hq)
      · exact fun q j hq => (f_X6_refuseOneTooMany_b81 hf q j hq).trans (hs q j hq)
theorem f_X6_refuseOneTooMany_b65 {F : Nat}  {r : Int} {σ' : mMem}   {x2 x3 : Int} {σ : mMem} (hf : g_X6_refuseOneTooMany_b65 F x2 x3 σ = some (r, σ')) : ∀ q j, ¬ T_X6_refuseOneTooMany  q j → σ' q j = σ q j := by
  unfold g_X6_refuseOneTooMany_b65 at hf
  have hs : ∀ q j, ¬ T_X6_refuseOneTooMany  q j → σ q j = σ q j := fun _ _ _ => rfl
  exact fun q j hq => (f_X6_refuseOneTooMany_b66 hf q j hq).trans (hs q j hq)
theorem f_X6_refuseOneTooMany_b44 {F : Nat}  {r : Int} {σ' : mMem}   {x1 x2 t0 : Int} {σ : mMem} (hf : g_X6_refuseOneTooMany_b44 F x1 x2 t0 σ = some (r, σ')) : ∀ q j, ¬ T_X6_refuseOneTooMany  q j → σ' q j = σ q j := by
  unfold g_X6_refuseOneTooMany_b44 at hf
  have hs : ∀ q j, ¬ T_X6_refuseOneTooMany  q j → σ q j = σ q j := fun _ _ _ => rfl
  refine f_ite hf (fun hf => ?_) (fun hf => ?_)
  · exact fun q j hq => (f_X6_refuseOneTooMany_b65 hf q j hq).trans (hs q j hq)
  · refine f_gp hf (fun hg305 hf => ?_)
    refine f_mob hf (fun r306 σ307 h1 hf => ?_)
    have hs := fun q j hq => (f_X5_hasGoes h1 q j (by unfold T_X5_hasGoes; exact id)).trans (hs q j hq)
    refine f_ite hf (fun hf => ?_) (fun hf => ?_)
    · exact fun q j hq => (f_X6_refuseOneTooMany_b65 hf q j hq).trans (hs q j hq)
    · exact fun q j hq => (f_X6_refuseOneTooMany_b66 hf q j hq).trans (hs q j hq)
theorem f_X6_refuseOneTooMany_b43 {F : Nat}  {r : Int} {σ' : mMem}   {x1 x2 : Int} {σ : mMem} (hf : g_X6_refuseOneTooMany_b43 F x1 x2 σ = some (r, σ')) : ∀ q j, ¬ T_X6_refuseOneTooMany  q j → σ' q j = σ q j := by
  unfold g_X6_refuseOneTooMany_b43 at hf
  have hs : ∀ q j, ¬ T_X6_refuseOneTooMany  q j → σ q j = σ q j := fun _ _ _ => rfl
  exact fun q j hq => (f_X6_refuseOneTooMany_b44 hf q j hq).trans (hs q j hq)
theorem f_X6_refuseOneTooMany_b22 {F : Nat}  {r : Int} {σ' : mMem}   {x1 t0 : Int} {σ : mMem} (hf : g_X6_refuseOneTooMany_b22 F x1 t0 σ = some (r, σ')) : ∀ q j, ¬ T_X6_refuseOneTooMany  q j → σ' q j = σ q j := by
  unfold g_X6_refuseOneTooMany_b22 at hf
  have hs : ∀ q j, ¬ T_X6_refuseOneTooMany  q j → σ q j = σ q j := fun _ _ _ => rfl
  refine f_ite hf (fun hf => ?_) (fun hf => ?_)
  · exact fun q j hq => (f_X6_refuseOneTooMany_b43 hf q j hq).trans (hs q j hq)
  · refine f_gp hf (fun hg102 hf => ?_)
    refine f_mob hf (fun r103 σ104 h1 hf => ?_)
    have hs := fun q j hq => (f_X5_hasSteers h1 q j (by unfold T_X5_hasSteers; exact id)).trans (hs q j hq)
    refine f_ite hf (fun hf => ?_) (fun hf => ?_)
    · exact fun q j hq => (f_X6_refuseOneTooMany_b43 hf q j hq).trans (hs q j hq)
    · exact fun q j hq => (f_X6_refuseOneTooMany_b44 hf q j hq).trans (hs q j hq)
theorem f_X6_refuseOneTooMany_b21 {F : Nat}  {r : Int} {σ' : mMem}   {x1 : Int} {σ : mMem} (hf : g_X6_refuseOneTooMany_b21 F x1 σ = some (r, σ')) : ∀ q j, ¬ T_X6_refuseOneTooMany  q j → σ' q j = σ q j := by
  unfold g_X6_refuseOneTooMany_b21 at hf
  have hs : ∀ q j, ¬ T_X6_refuseOneTooMany  q j → σ q j = σ q j := fun _ _ _ => rfl
  exact fun q j hq => (f_X6_refuseOneTooMany_b22 hf q j hq).trans (hs q j hq)
theorem f_X6_refuseOneTooMany {F : Nat}  {r : Int} {σ' : mMem} {x1 : Int} {σ : mMem} (hf : g_X6_refuseOneTooMany F x1 σ = some (r, σ')) : ∀ q j, ¬ T_X6_refuseOneTooMany  q j → σ' q j = σ q j := by
  unfold g_X6_refuseOneTooMany at hf
  have hs : ∀ q j, ¬ T_X6_refuseOneTooMany  q j → σ q j = σ q j := fun _ _ _ => rfl
  refine f_ite hf (fun hf => ?_) (fun hf => ?_)
  · exact fun q j hq => (f_X6_refuseOneTooMany_b21 hf q j hq).trans (hs q j hq)
  · refine f_gp hf (fun hg1 hf => ?_)
    refine f_ite hf (fun hf => ?_) (fun hf => ?_)
    · exact fun q j hq => (f_X6_refuseOneTooMany_b21 hf q j hq).trans (hs q j hq)
    · exact fun q j hq => (f_X6_refuseOneTooMany_b22 hf q j hq).trans (hs q j hq)
def T_X6_readStatement  (q j : Nat) : Prop := (q = 3 ∧ (j = 4 ∨ j = 5 ∨ j = 6 ∨ j = 7 ∨ j = 8 ∨ j = 9 ∨ j = 10 ∨ j = 11 ∨ j = 12 ∨ j = 13 ∨ j = 14)) ∨ q = 4 ∨ q = 5 ∨ q = 6 ∨ q = 7 ∨ (q = 8 ∧ (j = 4 ∨ j = 5 ∨ j = 6 ∨ j = 7 ∨ j = 8 ∨ j = 9 ∨ j = 10 ∨ j = 11 ∨ j = 12 ∨ j = 13 ∨ j = 14)) ∨ q = 9 ∨ q = 10 ∨ q = 11 ∨ q = 12 ∨ (q = 14 ∧ (j = 6 ∨ j = 7 ∨ j = 8 ∨ j = 9 ∨ j = 10 ∨ j = 11)) ∨ (q = 19 ∧ (j = 1 ∨ j = 2))
theorem f_X6_readStatement_b180 {F : Nat}  {r : Int} {σ' : mMem}   {σ : mMem} (hf : g_X6_readStatement_b180 F  σ = some (r, σ')) : ∀ q j, ¬ T_X6_readStatement  q j → σ' q j = σ q j := by
  unfold g_X6_readStatement_b180 at hf
  have hs : ∀ q j, ¬ T_X6_readStatement  q j → σ q j = σ q j := fun _ _ _ => rfl
  cases hf
  exact hs
theorem f_X6_readStatement_b175 {F : Nat}  {r : Int} {σ' : mMem}   {x2 : Int} {σ : mMem} (hf : g_X6_readStatement_b175 F x2 σ = some (r, σ')) : ∀ q j, ¬ T_X6_readStatement  q j → σ' q j = σ q j := by
  unfold g_X6_readStatement_b175 at hf
  have hs : ∀ q j, ¬ T_X6_readStatement  q j → σ q j = σ q j := fun _ _ _ => rfl
  refine f_mob hf (fun r421 σ422 h1 hf => ?_)
  have hs := fun q j hq => (f_X6_readSetting h1 q j (by unfold T_X6_readStatement at hq; unfold T_X6_readSetting; omega)).trans (hs q j hq)
  exact fun q j hq => (f_X6_readStatement_b180 hf q j hq).trans (hs q j hq)
theorem f_X6_readStatement_b33 {F : Nat}  {r : Int} {σ' : mMem}   {x2 t0 t1 : Int} {σ : mMem} (hf : g_X6_readStatement_b33 F x2 t0 t1 σ = some (r, σ')) : ∀ q j, ¬ T_X6_readStatement  q j → σ' q j = σ q j := by
  unfold g_X6_readStatement_b33 at hf
  have hs : ∀ q j, ¬ T_X6_readStatement  q j → σ q j = σ q j := fun _ _ _ => rfl
  refine f_ite hf (fun hf => ?_) (fun hf => ?_)
  · refine f_mob hf (fun r201 σ202 h1 hf => ?_)
    have hs := fun q j hq => (f_X6_refuseOneTooMany h1 q j (by unfold T_X6_readStatement at hq; unfold T_X6_refuseOneTooMany; omega)).trans (hs q j hq)
    refine f_ite hf (fun hf => ?_) (fun hf => ?_)
    · refine f_mob hf (fun r203 σ204 h1 hf => ?_)
      have hs := fun q j hq => (f_X6_readFloor h1 q j (by unfold T_X6_readStatement at hq; unfold T_X6_readFloor; omega)).trans (hs q j hq)
      exact fun q j hq => (f_X6_readStatement_b180 hf q j hq).trans (hs q j hq)
    refine f_ite hf (fun hf => ?_) (fun hf => ?_)
    · exact fun q j hq => (f_X6_readStatement_b175 hf q j hq).trans (hs q j hq)
    refine f_ite hf (fun hf => ?_) (fun hf => ?_)
    · refine f_mob hf (fun r205 σ206 h1 hf => ?_)
      have hs := fun q j hq => (f_X6_readGrey h1 q j (by unfold T_X6_readStatement at hq; unfold T_X6_readGrey; omega)).trans (hs q j hq)
      exact fun q j hq => (f_X6_readStatement_b180 hf q j hq).trans (hs q j hq)
    refine f_ite hf (fun hf => ?_) (fun hf => ?_)
    · refine f_mob hf (fun r207 σ208 h1 hf => ?_)
      have hs := fun q j hq => (f_X6_readBox h1 q j (by unfold T_X6_readStatement at hq; unfold T_X6_readBox; omega)).trans (hs q j hq)
      exact fun q j hq => (f_X6_readStatement_b180 hf q j hq).trans (hs q j hq)
    refine f_ite hf (fun hf => ?_) (fun hf => ?_)
    · exact fun q j hq => (f_X6_readStatement_b175 hf q j hq).trans (hs q j hq)
    refine f_ite hf (fun hf => ?_) (fun hf => ?_)
    · exact fun q j hq => (f_X6_readStatement_b175 hf q j hq).trans (hs q j hq)
    refine f_ite hf (fun hf => ?_) (fun hf => ?_)
    · refine f_mob hf (fun r209 σ210 h1 hf => ?_)
      have hs := fun q j hq => (f_X6_readEyes h1 q j (by unfold T_X6_readStatement at hq; unfold T_X6_readEyes; omega)).trans (hs q j hq)
      exact fun q j hq => (f_X6_readStatement_b180 hf q j hq).trans (hs q j hq)
    refine f_ite hf (fun hf => ?_) (fun hf => ?_)
    · exact fun q j hq => (f_X6_readStatement_b175 hf q j hq).trans (hs q j hq)
    refine f_ite hf (fun hf => ?_) (fun hf => ?_)
    · exact fun q j hq => (f_X6_readStatement_b175 hf q j hq).trans (hs q j hq)
    refine f_ite hf (fun hf => ?_) (fun hf => ?_)
    · refine f_mob hf (fun r211 σ212 h1 hf => ?_)
      have hs := fun q j hq => (f_X6_readBias h1 q j (by unfold T_X6_readStatement at hq; unfold T_X6_readBias; omega)).trans (hs q j hq)
      exact fun q j hq => (f_X6_readStatement_b180 hf q j hq).trans (hs q j hq)
    refine f_ite hf (fun hf => ?_) (fun hf => ?_)
    · refine f_gp hf (fun hg213 hf => ?_)
      refine f_mob hf (fun r214 σ215 h1 hf => ?_)
      have hs := fun q j hq => (f_X1_readSteers h1 q j (by unfold T_X6_readStatement at hq; unfold T_X1_readSteers; omega)).trans (hs q j hq)
      exact fun q j hq => (f_X6_readStatement_b180 hf q j hq).trans (hs q j hq)
    refine f_ite hf (fun hf => ?_) (fun hf => ?_)
    · refine f_gp hf (fun hg216 hf => ?_)
      refine f_mob hf (fun r217 σ218 h1 hf => ?_)
      have hs := fun q j hq => (f_X1_readGoes h1 q j (by unfold T_X6_readStatement at hq; unfold T_X1_readGoes; omega)).trans (hs q j hq)
      exact fun q j hq => (f_X6_readStatement_b180 hf q j hq).trans (hs q j hq)
    exact fun q j hq => (f_X6_readStatement_b175 hf q j hq).trans (hs q j hq)
  · refine f_mob hf (fun r219 σ220 h1 hf => ?_)
    have hs := fun q j hq => (f_X8_refuseHere h1 q j (by unfold T_X6_readStatement at hq; unfold T_X8_refuseHere; omega)).trans (hs q j hq)
    cases hf
    exact hs
theorem f_X6_readStatement_b22 {F : Nat}  {r : Int} {σ' : mMem}   {x1 t0 : Int} {σ : mMem} (hf : g_X6_readStatement_b22 F x1 t0 σ = some (r, σ')) : ∀ q j, ¬ T_X6_readStatement  q j → σ' q j = σ q j := by
  unfold g_X6_readStatement_b22 at hf
  have hs : ∀ q j, ¬ T_X6_readStatement  q j → σ q j = σ q j := fun _ _ _ => rfl
  refine f_ite hf (fun hf => ?_) (fun hf => ?_)
  · exact fun q j hq => (f_X6_readStatement_b33 hf q j hq).trans (hs q j hq)
  · exact fun q j hq => (f_X6_readStatement_b33 hf q j hq).trans (hs q j hq)
theorem f_X6_readStatement {F : Nat}  {r : Int} {σ' : mMem} {x1 : Int} {σ : mMem} (hf : g_X6_readStatement F x1 σ = some (r, σ')) : ∀ q j, ¬ T_X6_readStatement  q j → σ' q j = σ q j := by
  unfold g_X6_readStatement at hf
  have hs : ∀ q j, ¬ T_X6_readStatement  q j → σ q j = σ q j := fun _ _ _ => rfl
  refine f_ite hf (fun hf => ?_) (fun hf => ?_)
  · exact fun q j hq => (f_X6_readStatement_b22 hf q j hq).trans (hs q j hq)
  · exact fun q j hq => (f_X6_readStatement_b22 hf q j hq).trans (hs q j hq)
def T_X8_markOwnWord  (q j : Nat) : Prop := q = 16 ∨ q = 18
theorem f_X8_markOwnWord_b23 {F : Nat}  {r : Int} {σ' : mMem}   {σ : mMem} (hf : g_X8_markOwnWord_b23 F  σ = some (r, σ')) : ∀ q j, ¬ T_X8_markOwnWord  q j → σ' q j = σ q j := by
  unfold g_X8_markOwnWord_b23 at hf
  have hs : ∀ q j, ¬ T_X8_markOwnWord  q j → σ q j = σ q j := fun _ _ _ => rfl
  cases hf
  exact hs
theorem f_X8_markOwnWord_b71 {F : Nat}  {r : Int} {σ' : mMem} {k26 : Int → Int → mMem → mRs} (hk26 : ∀ (x1 x2 : Int) (σ : mMem), k26 x1 x2 σ = some (r, σ') → ∀ q j, ¬ T_X8_markOwnWord  q j → σ' q j = σ q j) {x1 x2 : Int} {σ : mMem} (hf : g_X8_markOwnWord_b71 F k26 x1 x2 σ = some (r, σ')) : ∀ q j, ¬ T_X8_markOwnWord  q j → σ' q j = σ q j := by
  unfold g_X8_markOwnWord_b71 at hf
  have hs : ∀ q j, ¬ T_X8_markOwnWord  q j → σ q j = σ q j := fun _ _ _ => rfl
  exact fun q j hq => (hk26 _ _ _ hf q j hq).trans (hs q j hq)
theorem f_X8_markOwnWord_h26 {F : Nat}  {r : Int} {σ' : mMem}   (n : Nat) : ∀ {x1 x2 : Int} {σ : mMem} (_ : g_X8_markOwnWord_h26 F n x1 x2 σ = some (r, σ')), ∀ q j, ¬ T_X8_markOwnWord  q j → σ' q j = σ q j := by
  induction n with
  | zero =>
    intro x1 x2 σ hf
    unfold g_X8_markOwnWord_h26 at hf
    cases hf
  | succ n ih =>
    have hk26 : ∀ (x1 x2 : Int) (σ : mMem), g_X8_markOwnWord_h26 F n x1 x2 σ = some (r, σ') → ∀ q j, ¬ T_X8_markOwnWord  q j → σ' q j = σ q j := fun x1 x2 σ hf => ih hf
    intro x1 x2 σ hf
    unfold g_X8_markOwnWord_h26 at hf
    have hs : ∀ q j, ¬ T_X8_markOwnWord  q j → σ q j = σ q j := fun _ _ _ => rfl
    refine f_ite hf (fun hf => ?_) (fun hf => ?_)
    · cases hf
      exact hs
    · refine f_gd hf (fun hf => ?_)
      refine f_ite hf (fun hf => ?_) (fun hf => ?_)
      · exact fun q j hq => (f_X8_markOwnWord_b71 hk26 hf q j hq).trans (hs q j hq)
      · refine f_gd hf (fun hf => ?_)
        refine f_gd hf (fun hf => ?_)
        refine f_ite hf (fun hf => ?_) (fun hf => ?_)
        · exact fun q j hq => (f_X8_markOwnWord_b71 hk26 hf q j hq).trans (hs q j hq)
        · refine f_gd hf (fun hf => ?_)
          refine f_mem hf (fun q j hq => (mup_ne (by unfold T_X8_markOwnWord at hq; omega)).trans (hs q j hq)) (fun σ201 hs hf => ?_)
          refine f_gd hf (fun hf => ?_)
          refine f_mem hf (fun q j hq => (mup_ne (by unfold T_X8_markOwnWord at hq; omega)).trans (hs q j hq)) (fun σ202 hs hf => ?_)
          exact fun q j hq => (f_X8_markOwnWord_b71 hk26 hf q j hq).trans (hs q j hq)
theorem f_X8_markOwnWord {F : Nat}  {r : Int} {σ' : mMem} {x1 : Int} {σ : mMem} (hf : g_X8_markOwnWord F x1 σ = some (r, σ')) : ∀ q j, ¬ T_X8_markOwnWord  q j → σ' q j = σ q j := by
  unfold g_X8_markOwnWord at hf
  have hs : ∀ q j, ¬ T_X8_markOwnWord  q j → σ q j = σ q j := fun _ _ _ => rfl
  refine f_ite hf (fun hf => ?_) (fun hf => ?_)
  · exact fun q j hq => (f_X8_markOwnWord_b23 hf q j hq).trans (hs q j hq)
  · refine f_ite hf (fun hf => ?_) (fun hf => ?_)
    · exact fun q j hq => (f_X8_markOwnWord_b23 hf q j hq).trans (hs q j hq)
    · refine f_gd hf (fun hf => ?_)
      refine f_ite hf (fun hf => ?_) (fun hf => ?_)
      · exact fun q j hq => (f_X8_markOwnWord_h26 _ hf q j hq).trans (hs q j hq)
      · exact fun q j hq => (f_X8_markOwnWord_b23 hf q j hq).trans (hs q j hq)
def T_X8_add  (q j : Nat) : Prop := (q = 14 ∧ (j = 5)) ∨ q = 16 ∨ q = 17 ∨ q = 18
theorem f_X8_add_b59 {F : Nat}  {r : Int} {σ' : mMem}   {σ : mMem} (hf : g_X8_add_b59 F  σ = some (r, σ')) : ∀ q j, ¬ T_X8_add  q j → σ' q j = σ q j := by
  unfold g_X8_add_b59 at hf
  have hs : ∀ q j, ¬ T_X8_add  q j → σ q j = σ q j := fun _ _ _ => rfl
  cases hf
  exact hs
theorem f_X8_add {F : Nat}  {r : Int} {σ' : mMem} {x1 x2 x3 : Int} {σ : mMem} (hf : g_X8_add F x1 x2 x3 σ = some (r, σ')) : ∀ q j, ¬ T_X8_add  q j → σ' q j = σ q j := by
  unfold g_X8_add at hf
  have hs : ∀ q j, ¬ T_X8_add  q j → σ q j = σ q j := fun _ _ _ => rfl
  refine f_ite hf (fun hf => ?_) (fun hf => ?_)
  · exact fun q j hq => (f_X8_add_b59 hf q j hq).trans (hs q j hq)
  · refine f_ite hf (fun hf => ?_) (fun hf => ?_)
    · exact fun q j hq => (f_X8_add_b59 hf q j hq).trans (hs q j hq)
    · refine f_gd hf (fun hf => ?_)
      refine f_mem hf (fun q j hq => (mup_ne (by unfold T_X8_add at hq; omega)).trans (hs q j hq)) (fun σ1 hs hf => ?_)
      refine f_gd hf (fun hf => ?_)
      refine f_mem hf (fun q j hq => (mup_ne (by unfold T_X8_add at hq; omega)).trans (hs q j hq)) (fun σ2 hs hf => ?_)
      refine f_gd hf (fun hf => ?_)
      refine f_mem hf (fun q j hq => (mup_ne (by unfold T_X8_add at hq; omega)).trans (hs q j hq)) (fun σ3 hs hf => ?_)
      refine f_mem hf (fun q j hq => (mup_ne (by unfold T_X8_add at hq; omega)).trans (hs q j hq)) (fun σ4 hs hf => ?_)
      exact fun q j hq => (f_X8_add_b59 hf q j hq).trans (hs q j hq)
def T_X8_addDigit  (q j : Nat) : Prop := q = 16 ∨ q = 18
theorem f_X8_addDigit_b20 {F : Nat}  {r : Int} {σ' : mMem}   {σ : mMem} (hf : g_X8_addDigit_b20 F  σ = some (r, σ')) : ∀ q j, ¬ T_X8_addDigit  q j → σ' q j = σ q j := by
  unfold g_X8_addDigit_b20 at hf
  have hs : ∀ q j, ¬ T_X8_addDigit  q j → σ q j = σ q j := fun _ _ _ => rfl
  refine f_gd hf (fun hf => ?_)
  cases hf
  exact hs
theorem f_X8_addDigit_b85 {F : Nat}  {r : Int} {σ' : mMem}   {x4 t0 t1 : Int} {σ : mMem} (hf : g_X8_addDigit_b85 F x4 t0 t1 σ = some (r, σ')) : ∀ q j, ¬ T_X8_addDigit  q j → σ' q j = σ q j := by
  unfold g_X8_addDigit_b85 at hf
  have hs : ∀ q j, ¬ T_X8_addDigit  q j → σ q j = σ q j := fun _ _ _ => rfl
  refine f_gd hf (fun hf => ?_)
  refine f_mem hf (fun q j hq => (mup_ne (by unfold T_X8_addDigit at hq; omega)).trans (hs q j hq)) (fun σ403 hs hf => ?_)
  refine f_gd hf (fun hf => ?_)
  cases hf
  exact hs
theorem f_X8_addDigit_b56 {F : Nat}  {r : Int} {σ' : mMem}   {x1 x2 x3 x4 t0 t1 : Int} {σ : mMem} (hf : g_X8_addDigit_b56 F x1 x2 x3 x4 t0 t1 σ = some (r, σ')) : ∀ q j, ¬ T_X8_addDigit  q j → σ' q j = σ q j := by
  unfold g_X8_addDigit_b56 at hf
  have hs : ∀ q j, ¬ T_X8_addDigit  q j → σ q j = σ q j := fun _ _ _ => rfl
  refine f_gd hf (fun hf => ?_)
  refine f_mem hf (fun q j hq => (mup_ne (by unfold T_X8_addDigit at hq; omega)).trans (hs q j hq)) (fun σ302 hs hf => ?_)
  refine f_ite hf (fun hf => ?_) (fun hf => ?_)
  · exact fun q j hq => (f_X8_addDigit_b85 hf q j hq).trans (hs q j hq)
  · refine f_gd hf (fun hf => ?_)
    exact fun q j hq => (f_X8_addDigit_b85 hf q j hq).trans (hs q j hq)
theorem f_X8_addDigit_b39 {F : Nat}  {r : Int} {σ' : mMem}   {x1 x2 x3 t0 : Int} {σ : mMem} (hf : g_X8_addDigit_b39 F x1 x2 x3 t0 σ = some (r, σ')) : ∀ q j, ¬ T_X8_addDigit  q j → σ' q j = σ q j := by
  unfold g_X8_addDigit_b39 at hf
  have hs : ∀ q j, ¬ T_X8_addDigit  q j → σ q j = σ q j := fun _ _ _ => rfl
  refine f_ite hf (fun hf => ?_) (fun hf => ?_)
  · exact fun q j hq => (f_X8_addDigit_b56 hf q j hq).trans (hs q j hq)
  · exact fun q j hq => (f_X8_addDigit_b56 hf q j hq).trans (hs q j hq)
theorem f_X8_addDigit {F : Nat}  {r : Int} {σ' : mMem} {x1 x2 : Int} {σ : mMem} (hf : g_X8_addDigit F x1 x2 σ = some (r, σ')) : ∀ q j, ¬ T_X8_addDigit  q j → σ' q j = σ q j := by
  unfold g_X8_addDigit at hf
  have hs : ∀ q j, ¬ T_X8_addDigit  q j → σ q j = σ q j := fun _ _ _ => rfl
  refine f_let hf (fun y1 hf => ?_)
  refine f_ite hf (fun hf => ?_) (fun hf => ?_)
  · exact fun q j hq => (f_X8_addDigit_b20 hf q j hq).trans (hs q j hq)
  · refine f_ite hf (fun hf => ?_) (fun hf => ?_)
    · refine f_gd hf (fun hf => ?_)
      refine f_ite hf (fun hf => ?_) (fun hf => ?_)
      · exact fun q j hq => (f_X8_addDigit_b39 hf q j hq).trans (hs q j hq)
      · exact fun q j hq => (f_X8_addDigit_b39 hf q j hq).trans (hs q j hq)
    · exact fun q j hq => (f_X8_addDigit_b20 hf q j hq).trans (hs q j hq)
def T_X8_addLetter  (q j : Nat) : Prop := q = 16 ∨ q = 18
theorem f_X8_addLetter_b20 {F : Nat}  {r : Int} {σ' : mMem}   {σ : mMem} (hf : g_X8_addLetter_b20 F  σ = some (r, σ')) : ∀ q j, ¬ T_X8_addLetter  q j → σ' q j = σ q j := by
  unfold g_X8_addLetter_b20 at hf
  have hs : ∀ q j, ¬ T_X8_addLetter  q j → σ q j = σ q j := fun _ _ _ => rfl
  refine f_gd hf (fun hf => ?_)
  cases hf
  exact hs
theorem f_X8_addLetter_b95 {F : Nat}  {r : Int} {σ' : mMem}   {x5 t0 t1 : Int} {σ : mMem} (hf : g_X8_addLetter_b95 F x5 t0 t1 σ = some (r, σ')) : ∀ q j, ¬ T_X8_addLetter  q j → σ' q j = σ q j := by
  unfold g_X8_addLetter_b95 at hf
  have hs : ∀ q j, ¬ T_X8_addLetter  q j → σ q j = σ q j := fun _ _ _ => rfl
  refine f_gd hf (fun hf => ?_)
  refine f_mem hf (fun q j hq => (mup_ne (by unfold T_X8_addLetter at hq; omega)).trans (hs q j hq)) (fun σ406 hs hf => ?_)
  refine f_gd hf (fun hf => ?_)
  cases hf
  exact hs
theorem f_X8_addLetter_b61 {F : Nat}  {r : Int} {σ' : mMem}   {x1 x2 x3 x4 x5 t0 t1 : Int} {σ : mMem} (hf : g_X8_addLetter_b61 F x1 x2 x3 x4 x5 t0 t1 σ = some (r, σ')) : ∀ q j, ¬ T_X8_addLetter  q j → σ' q j = σ q j := by
  unfold g_X8_addLetter_b61 at hf
  have hs : ∀ q j, ¬ T_X8_addLetter  q j → σ q j = σ q j := fun _ _ _ => rfl
  refine f_gd hf (fun hf => ?_)
  refine f_mem hf (fun q j hq => (mup_ne (by unfold T_X8_addLetter at hq; omega)).trans (hs q j hq)) (fun σ303 hs hf => ?_)
  refine f_ite hf (fun hf => ?_) (fun hf => ?_)
  · exact fun q j hq => (f_X8_addLetter_b95 hf q j hq).trans (hs q j hq)
  · refine f_gd hf (fun hf => ?_)
    refine f_mob hf (fun r304 σ305 h1 hf => ?_)
    have hs := fun q j hq => (f_X5_shiftOf h1 q j (by unfold T_X5_shiftOf; exact id)).trans (hs q j hq)
    exact fun q j hq => (f_X8_addLetter_b95 hf q j hq).trans (hs q j hq)
theorem f_X8_addLetter_b44 {F : Nat}  {r : Int} {σ' : mMem}   {x1 x2 x3 x4 t0 : Int} {σ : mMem} (hf : g_X8_addLetter_b44 F x1 x2 x3 x4 t0 σ = some (r, σ')) : ∀ q j, ¬ T_X8_addLetter  q j → σ' q j = σ q j := by
  unfold g_X8_addLetter_b44 at hf
  have hs : ∀ q j, ¬ T_X8_addLetter  q j → σ q j = σ q j := fun _ _ _ => rfl
  refine f_ite hf (fun hf => ?_) (fun hf => ?_)
  · exact fun q j hq => (f_X8_addLetter_b61 hf q j hq).trans (hs q j hq)
  · exact fun q j hq => (f_X8_addLetter_b61 hf q j hq).trans (hs q j hq)
theorem f_X8_addLetter {F : Nat}  {r : Int} {σ' : mMem} {x1 x2 : Int} {σ : mMem} (hf : g_X8_addLetter F x1 x2 σ = some (r, σ')) : ∀ q j, ¬ T_X8_addLetter  q j → σ' q j = σ q j := by
  unfold g_X8_addLetter at hf
  have hs : ∀ q j, ¬ T_X8_addLetter  q j → σ q j = σ q j := fun _ _ _ => rfl
  refine f_let hf (fun y1 hf => ?_)
  refine f_ite hf (fun hf => ?_) (fun hf => ?_)
  · exact fun q j hq => (f_X8_addLetter_b20 hf q j hq).trans (hs q j hq)
  · refine f_ite hf (fun hf => ?_) (fun hf => ?_)
    · refine f_gd hf (fun hf => ?_)
      refine f_let hf (fun y2 hf => ?_)
      refine f_ite hf (fun hf => ?_) (fun hf => ?_)
      · exact fun q j hq => (f_X8_addLetter_b44 hf q j hq).trans (hs q j hq)
      · exact fun q j hq => (f_X8_addLetter_b44 hf q j hq).trans (hs q j hq)
    · exact fun q j hq => (f_X8_addLetter_b20 hf q j hq).trans (hs q j hq)
def T_X8_isBlank  (q j : Nat) : Prop := False
theorem f_X8_isBlank_b17 {F : Nat}  {r : Int} {σ' : mMem}   {t0 : Int} {σ : mMem} (hf : g_X8_isBlank_b17 F t0 σ = some (r, σ')) : ∀ q j, ¬ T_X8_isBlank  q j → σ' q j = σ q j := by
  unfold g_X8_isBlank_b17 at hf
  have hs : ∀ q j, ¬ T_X8_isBlank  q j → σ q j = σ q j := fun _ _ _ => rfl
  refine f_gd hf (fun hf => ?_)
  cases hf
  exact hs
theorem f_X8_isBlank_b12 {F : Nat}  {r : Int} {σ' : mMem}   {σ : mMem} (hf : g_X8_isBlank_b12 F  σ = some (r, σ')) : ∀ q j, ¬ T_X8_isBlank  q j → σ' q j = σ q j := by
  unfold g_X8_isBlank_b12 at hf
  have hs : ∀ q j, ¬ T_X8_isBlank  q j → σ q j = σ q j := fun _ _ _ => rfl
  exact fun q j hq => (f_X8_isBlank_b17 hf q j hq).trans (hs q j hq)
theorem f_X8_isBlank {F : Nat}  {r : Int} {σ' : mMem} {x0 : Int} {σ : mMem} (hf : g_X8_isBlank F x0 σ = some (r, σ')) : ∀ q j, ¬ T_X8_isBlank  q j → σ' q j = σ q j := by
  unfold g_X8_isBlank at hf
  have hs : ∀ q j, ¬ T_X8_isBlank  q j → σ q j = σ q j := fun _ _ _ => rfl
  refine f_ite hf (fun hf => ?_) (fun hf => ?_)
  · exact fun q j hq => (f_X8_isBlank_b12 hf q j hq).trans (hs q j hq)
  · refine f_ite hf (fun hf => ?_) (fun hf => ?_)
    · exact fun q j hq => (f_X8_isBlank_b17 hf q j hq).trans (hs q j hq)
    · exact fun q j hq => (f_X8_isBlank_b12 hf q j hq).trans (hs q j hq)
def T_X8_isDigit  (q j : Nat) : Prop := False
theorem f_X8_isDigit_b17 {F : Nat}  {r : Int} {σ' : mMem}   {t0 : Int} {σ : mMem} (hf : g_X8_isDigit_b17 F t0 σ = some (r, σ')) : ∀ q j, ¬ T_X8_isDigit  q j → σ' q j = σ q j := by
  unfold g_X8_isDigit_b17 at hf
  have hs : ∀ q j, ¬ T_X8_isDigit  q j → σ q j = σ q j := fun _ _ _ => rfl
  refine f_gd hf (fun hf => ?_)
  cases hf
  exact hs
theorem f_X8_isDigit_b16 {F : Nat}  {r : Int} {σ' : mMem}   {σ : mMem} (hf : g_X8_isDigit_b16 F  σ = some (r, σ')) : ∀ q j, ¬ T_X8_isDigit  q j → σ' q j = σ q j := by
  unfold g_X8_isDigit_b16 at hf
  have hs : ∀ q j, ¬ T_X8_isDigit  q j → σ q j = σ q j := fun _ _ _ => rfl
  exact fun q j hq => (f_X8_isDigit_b17 hf q j hq).trans (hs q j hq)
theorem f_X8_isDigit {F : Nat}  {r : Int} {σ' : mMem} {x0 : Int} {σ : mMem} (hf : g_X8_isDigit F x0 σ = some (r, σ')) : ∀ q j, ¬ T_X8_isDigit  q j → σ' q j = σ q j := by
  unfold g_X8_isDigit at hf
  have hs : ∀ q j, ¬ T_X8_isDigit  q j → σ q j = σ q j := fun _ _ _ => rfl
  refine f_ite hf (fun hf => ?_) (fun hf => ?_)
  · exact fun q j hq => (f_X8_isDigit_b16 hf q j hq).trans (hs q j hq)
  · refine f_ite hf (fun hf => ?_) (fun hf => ?_)
    · exact fun q j hq => (f_X8_isDigit_b16 hf q j hq).trans (hs q j hq)
    · exact fun q j hq => (f_X8_isDigit_b17 hf q j hq).trans (hs q j hq)
def T_X8_isLetter  (q j : Nat) : Prop := False
theorem f_X8_isLetter_b17 {F : Nat}  {r : Int} {σ' : mMem}   {t0 : Int} {σ : mMem} (hf : g_X8_isLetter_b17 F t0 σ = some (r, σ')) : ∀ q j, ¬ T_X8_isLetter  q j → σ' q j = σ q j := by
  unfold g_X8_isLetter_b17 at hf
  have hs : ∀ q j, ¬ T_X8_isLetter  q j → σ q j = σ q j := fun _ _ _ => rfl
  refine f_gd hf (fun hf => ?_)
  cases hf
  exact hs
theorem f_X8_isLetter_b16 {F : Nat}  {r : Int} {σ' : mMem}   {σ : mMem} (hf : g_X8_isLetter_b16 F  σ = some (r, σ')) : ∀ q j, ¬ T_X8_isLetter  q j → σ' q j = σ q j := by
  unfold g_X8_isLetter_b16 at hf
  have hs : ∀ q j, ¬ T_X8_isLetter  q j → σ q j = σ q j := fun _ _ _ => rfl
  exact fun q j hq => (f_X8_isLetter_b17 hf q j hq).trans (hs q j hq)
theorem f_X8_isLetter {F : Nat}  {r : Int} {σ' : mMem} {x0 : Int} {σ : mMem} (hf : g_X8_isLetter F x0 σ = some (r, σ')) : ∀ q j, ¬ T_X8_isLetter  q j → σ' q j = σ q j := by
  unfold g_X8_isLetter at hf
  have hs : ∀ q j, ¬ T_X8_isLetter  q j → σ q j = σ q j := fun _ _ _ => rfl
  refine f_ite hf (fun hf => ?_) (fun hf => ?_)
  · exact fun q j hq => (f_X8_isLetter_b16 hf q j hq).trans (hs q j hq)
  · refine f_ite hf (fun hf => ?_) (fun hf => ?_)
    · exact fun q j hq => (f_X8_isLetter_b16 hf q j hq).trans (hs q j hq)
    · exact fun q j hq => (f_X8_isLetter_b17 hf q j hq).trans (hs q j hq)
def T_X8_startSolid  (q j : Nat) : Prop := (q = 14 ∧ (j = 5)) ∨ q = 16 ∨ q = 17 ∨ q = 18
theorem f_X8_startSolid_b56 {F : Nat}  {r : Int} {σ' : mMem}   {t0 : Int} {σ : mMem} (hf : g_X8_startSolid_b56 F t0 σ = some (r, σ')) : ∀ q j, ¬ T_X8_startSolid  q j → σ' q j = σ q j := by
  unfold g_X8_startSolid_b56 at hf
  have hs : ∀ q j, ¬ T_X8_startSolid  q j → σ q j = σ q j := fun _ _ _ => rfl
  refine f_gd hf (fun hf => ?_)
  cases hf
  exact hs
theorem f_X8_startSolid_b43 {F : Nat}  {r : Int} {σ' : mMem}   {x4 t0 t1 t2 : Int} {σ : mMem} (hf : g_X8_startSolid_b43 F x4 t0 t1 t2 σ = some (r, σ')) : ∀ q j, ¬ T_X8_startSolid  q j → σ' q j = σ q j := by
  unfold g_X8_startSolid_b43 at hf
  have hs : ∀ q j, ¬ T_X8_startSolid  q j → σ q j = σ q j := fun _ _ _ => rfl
  refine f_mob hf (fun r405 σ406 h1 hf => ?_)
  have hs := fun q j hq => (f_X8_add h1 q j (by unfold T_X8_startSolid at hq; unfold T_X8_add; omega)).trans (hs q j hq)
  refine f_ite hf (fun hf => ?_) (fun hf => ?_)
  · exact fun q j hq => (f_X8_startSolid_b56 hf q j hq).trans (hs q j hq)
  · exact fun q j hq => (f_X8_startSolid_b56 hf q j hq).trans (hs q j hq)
theorem f_X8_startSolid_b32 {F : Nat}  {r : Int} {σ' : mMem}   {x2 x4 t0 : Int} {σ : mMem} (hf : g_X8_startSolid_b32 F x2 x4 t0 σ = some (r, σ')) : ∀ q j, ¬ T_X8_startSolid  q j → σ' q j = σ q j := by
  unfold g_X8_startSolid_b32 at hf
  have hs : ∀ q j, ¬ T_X8_startSolid  q j → σ q j = σ q j := fun _ _ _ => rfl
  refine f_ite hf (fun hf => ?_) (fun hf => ?_)
  · exact fun q j hq => (f_X8_startSolid_b43 hf q j hq).trans (hs q j hq)
  · exact fun q j hq => (f_X8_startSolid_b43 hf q j hq).trans (hs q j hq)
theorem f_X8_startSolid_b19 {F : Nat}  {r : Int} {σ' : mMem}   {x1 x2 t0 : Int} {σ : mMem} (hf : g_X8_startSolid_b19 F x1 x2 t0 σ = some (r, σ')) : ∀ q j, ¬ T_X8_startSolid  q j → σ' q j = σ q j := by
  unfold g_X8_startSolid_b19 at hf
  have hs : ∀ q j, ¬ T_X8_startSolid  q j → σ q j = σ q j := fun _ _ _ => rfl
  refine f_ite hf (fun hf => ?_) (fun hf => ?_)
  · exact fun q j hq => (f_X8_startSolid_b32 hf q j hq).trans (hs q j hq)
  · exact fun q j hq => (f_X8_startSolid_b32 hf q j hq).trans (hs q j hq)
theorem f_X8_startSolid_b14 {F : Nat}  {r : Int} {σ' : mMem}   {x1 x2 : Int} {σ : mMem} (hf : g_X8_startSolid_b14 F x1 x2 σ = some (r, σ')) : ∀ q j, ¬ T_X8_startSolid  q j → σ' q j = σ q j := by
  unfold g_X8_startSolid_b14 at hf
  have hs : ∀ q j, ¬ T_X8_startSolid  q j → σ q j = σ q j := fun _ _ _ => rfl
  exact fun q j hq => (f_X8_startSolid_b19 hf q j hq).trans (hs q j hq)
theorem f_X8_startSolid {F : Nat}  {r : Int} {σ' : mMem} {x1 x2 x3 : Int} {σ : mMem} (hf : g_X8_startSolid F x1 x2 x3 σ = some (r, σ')) : ∀ q j, ¬ T_X8_startSolid  q j → σ' q j = σ q j := by
  unfold g_X8_startSolid at hf
  have hs : ∀ q j, ¬ T_X8_startSolid  q j → σ q j = σ q j := fun _ _ _ => rfl
  refine f_mob hf (fun r1 σ2 h1 hf => ?_)
  have hs := fun q j hq => (f_X8_isLetter h1 q j (by unfold T_X8_isLetter; exact id)).trans (hs q j hq)
  refine f_ite hf (fun hf => ?_) (fun hf => ?_)
  · exact fun q j hq => (f_X8_startSolid_b14 hf q j hq).trans (hs q j hq)
  · refine f_mob hf (fun r3 σ4 h1 hf => ?_)
    have hs := fun q j hq => (f_X8_isDigit h1 q j (by unfold T_X8_isDigit; exact id)).trans (hs q j hq)
    refine f_ite hf (fun hf => ?_) (fun hf => ?_)
    · exact fun q j hq => (f_X8_startSolid_b19 hf q j hq).trans (hs q j hq)
    · exact fun q j hq => (f_X8_startSolid_b14 hf q j hq).trans (hs q j hq)
def T_X8_scan  (q j : Nat) : Prop := (q = 14 ∧ (j = 5)) ∨ q = 16 ∨ q = 17 ∨ q = 18
theorem f_X8_scan_b124 {F : Nat}  {r : Int} {σ' : mMem}   {t0 : Int} {σ : mMem} (hf : g_X8_scan_b124 F t0 σ = some (r, σ')) : ∀ q j, ¬ T_X8_scan  q j → σ' q j = σ q j := by
  unfold g_X8_scan_b124 at hf
  have hs : ∀ q j, ¬ T_X8_scan  q j → σ q j = σ q j := fun _ _ _ => rfl
  refine f_gd hf (fun hf => ?_)
  cases hf
  exact hs
theorem f_X8_scan_b123 {F : Nat}  {r : Int} {σ' : mMem}   {σ : mMem} (hf : g_X8_scan_b123 F  σ = some (r, σ')) : ∀ q j, ¬ T_X8_scan  q j → σ' q j = σ q j := by
  unfold g_X8_scan_b123 at hf
  have hs : ∀ q j, ¬ T_X8_scan  q j → σ q j = σ q j := fun _ _ _ => rfl
  exact fun q j hq => (f_X8_scan_b124 hf q j hq).trans (hs q j hq)
theorem f_X8_scan_b76 {F : Nat}  {r : Int} {σ' : mMem}   {t0 : Int} {σ : mMem} (hf : g_X8_scan_b76 F t0 σ = some (r, σ')) : ∀ q j, ¬ T_X8_scan  q j → σ' q j = σ q j := by
  unfold g_X8_scan_b76 at hf
  have hs : ∀ q j, ¬ T_X8_scan  q j → σ q j = σ q j := fun _ _ _ => rfl
  refine f_gd hf (fun hf => ?_)
  cases hf
  exact hs
theorem f_X8_scan_b75 {F : Nat}  {r : Int} {σ' : mMem}   {σ : mMem} (hf : g_X8_scan_b75 F  σ = some (r, σ')) : ∀ q j, ¬ T_X8_scan  q j → σ' q j = σ q j := by
  unfold g_X8_scan_b75 at hf
  have hs : ∀ q j, ¬ T_X8_scan  q j → σ q j = σ q j := fun _ _ _ => rfl
  exact fun q j hq => (f_X8_scan_b76 hf q j hq).trans (hs q j hq)
theorem f_X8_scan {F : Nat}  {r : Int} {σ' : mMem} {x1 : Int} {σ : mMem} (hf : g_X8_scan F x1 σ = some (r, σ')) : ∀ q j, ¬ T_X8_scan  q j → σ' q j = σ q j := by
  unfold g_X8_scan at hf
  have hs : ∀ q j, ¬ T_X8_scan  q j → σ q j = σ q j := fun _ _ _ => rfl
  refine f_mob hf (fun r1 σ2 h1 hf => ?_)
  have hs := fun q j hq => (f_X7_at h1 q j (by unfold T_X7_at; exact id)).trans (hs q j hq)
  refine f_mob hf (fun r3 σ4 h1 hf => ?_)
  have hs := fun q j hq => (f_X7_at h1 q j (by unfold T_X7_at; exact id)).trans (hs q j hq)
  refine f_mob hf (fun r5 σ6 h1 hf => ?_)
  have hs := fun q j hq => (f_X8_isBlank h1 q j (by unfold T_X8_isBlank; exact id)).trans (hs q j hq)
  refine f_ite hf (fun hf => ?_) (fun hf => ?_)
  · refine f_mob hf (fun r7 σ8 h1 hf => ?_)
    have hs := fun q j hq => (f_X8_isLetter h1 q j (by unfold T_X8_isLetter; exact id)).trans (hs q j hq)
    refine f_ite hf (fun hf => ?_) (fun hf => ?_)
    · refine f_mob hf (fun r9 σ10 h1 hf => ?_)
      have hs := fun q j hq => (f_X8_isDigit h1 q j (by unfold T_X8_isDigit; exact id)).trans (hs q j hq)
      refine f_ite hf (fun hf => ?_) (fun hf => ?_)
      · refine f_mob hf (fun r11 σ12 h1 hf => ?_)
        have hs := fun q j hq => (f_X8_add h1 q j (by unfold T_X8_scan at hq; unfold T_X8_add; omega)).trans (hs q j hq)
        refine f_gd hf (fun hf => ?_)
        cases hf
        exact hs
      · refine f_mob hf (fun r13 σ14 h1 hf => ?_)
        have hs := fun q j hq => (f_X8_isDigit h1 q j (by unfold T_X8_isDigit; exact id)).trans (hs q j hq)
        refine f_ite hf (fun hf => ?_) (fun hf => ?_)
        · refine f_mob hf (fun r15 σ16 h1 hf => ?_)
          have hs := fun q j hq => (f_X8_startSolid h1 q j (by unfold T_X8_scan at hq; unfold T_X8_startSolid; omega)).trans (hs q j hq)
          refine f_ite hf (fun hf => ?_) (fun hf => ?_)
          · exact fun q j hq => (f_X8_scan_b123 hf q j hq).trans (hs q j hq)
          · refine f_mob hf (fun r17 σ18 h1 hf => ?_)
            have hs := fun q j hq => (f_X8_addDigit h1 q j (by unfold T_X8_scan at hq; unfold T_X8_addDigit; omega)).trans (hs q j hq)
            refine f_ite hf (fun hf => ?_) (fun hf => ?_)
            · exact fun q j hq => (f_X8_scan_b123 hf q j hq).trans (hs q j hq)
            · exact fun q j hq => (f_X8_scan_b124 hf q j hq).trans (hs q j hq)
        · refine f_mob hf (fun r19 σ20 h1 hf => ?_)
          have hs := fun q j hq => (f_X8_addDigit h1 q j (by unfold T_X8_scan at hq; unfold T_X8_addDigit; omega)).trans (hs q j hq)
          exact fun q j hq => (f_X8_scan_b124 hf q j hq).trans (hs q j hq)
    · refine f_mob hf (fun r21 σ22 h1 hf => ?_)
      have hs := fun q j hq => (f_X8_isLetter h1 q j (by unfold T_X8_isLetter; exact id)).trans (hs q j hq)
      refine f_ite hf (fun hf => ?_) (fun hf => ?_)
      · refine f_mob hf (fun r23 σ24 h1 hf => ?_)
        have hs := fun q j hq => (f_X8_startSolid h1 q j (by unfold T_X8_scan at hq; unfold T_X8_startSolid; omega)).trans (hs q j hq)
        refine f_ite hf (fun hf => ?_) (fun hf => ?_)
        · exact fun q j hq => (f_X8_scan_b75 hf q j hq).trans (hs q j hq)
        · refine f_mob hf (fun r25 σ26 h1 hf => ?_)
          have hs := fun q j hq => (f_X8_addLetter h1 q j (by unfold T_X8_scan at hq; unfold T_X8_addLetter; omega)).trans (hs q j hq)
          refine f_ite hf (fun hf => ?_) (fun hf => ?_)
          · exact fun q j hq => (f_X8_scan_b75 hf q j hq).trans (hs q j hq)
          · exact fun q j hq => (f_X8_scan_b76 hf q j hq).trans (hs q j hq)
      · refine f_mob hf (fun r27 σ28 h1 hf => ?_)
        have hs := fun q j hq => (f_X8_addLetter h1 q j (by unfold T_X8_scan at hq; unfold T_X8_addLetter; omega)).trans (hs q j hq)
        exact fun q j hq => (f_X8_scan_b76 hf q j hq).trans (hs q j hq)
  · refine f_gd hf (fun hf => ?_)
    cases hf
    exact hs
def T_X8_open  (q j : Nat) : Prop := (q = 14 ∧ (j = 5 ∨ j = 6 ∨ j = 7 ∨ j = 8 ∨ j = 9 ∨ j = 10 ∨ j = 11)) ∨ q = 16 ∨ q = 17 ∨ q = 18
theorem f_X8_open_h38 {F : Nat}  {r : Int} {σ' : mMem}   (n : Nat) : ∀ {x2 : Int} {σ : mMem} (_ : g_X8_open_h38 F n x2 σ = some (r, σ')), ∀ q j, ¬ T_X8_open  q j → σ' q j = σ q j := by
  induction n with
  | zero =>
    intro x2 σ hf
    unfold g_X8_open_h38 at hf
    cases hf
  | succ n ih =>
    have hk38 : ∀ (x2 : Int) (σ : mMem), g_X8_open_h38 F n x2 σ = some (r, σ') → ∀ q j, ¬ T_X8_open  q j → σ' q j = σ q j := fun x2 σ hf => ih hf
    intro x2 σ hf
    unfold g_X8_open_h38 at hf
    have hs : ∀ q j, ¬ T_X8_open  q j → σ q j = σ q j := fun _ _ _ => rfl
    refine f_ite hf (fun hf => ?_) (fun hf => ?_)
    · refine f_mem hf (fun q j hq => (mup_ne (by unfold T_X8_open at hq; omega)).trans (hs q j hq)) (fun σ304 hs hf => ?_)
      refine f_mem hf (fun q j hq => (mup_ne (by unfold T_X8_open at hq; omega)).trans (hs q j hq)) (fun σ305 hs hf => ?_)
      refine f_mem hf (fun q j hq => (mup_ne (by unfold T_X8_open at hq; omega)).trans (hs q j hq)) (fun σ306 hs hf => ?_)
      refine f_mob hf (fun r307 σ308 h1 hf => ?_)
      have hs := fun q j hq => (f_X8_next h1 q j (by unfold T_X8_open at hq; unfold T_X8_next; omega)).trans (hs q j hq)
      cases hf
      exact hs
    · refine f_mob hf (fun r309 σ310 h1 hf => ?_)
      have hs := fun q j hq => (f_X8_markOwnWord h1 q j (by unfold T_X8_open at hq; unfold T_X8_markOwnWord; omega)).trans (hs q j hq)
      exact fun q j hq => (hk38 _ _ hf q j hq).trans (hs q j hq)
theorem f_X8_open_b36 {F : Nat}  {r : Int} {σ' : mMem}   {σ : mMem} (hf : g_X8_open_b36 F  σ = some (r, σ')) : ∀ q j, ¬ T_X8_open  q j → σ' q j = σ q j := by
  unfold g_X8_open_b36 at hf
  have hs : ∀ q j, ¬ T_X8_open  q j → σ q j = σ q j := fun _ _ _ => rfl
  exact fun q j hq => (f_X8_open_h38 _ hf q j hq).trans (hs q j hq)
theorem f_X8_open_h9 {F : Nat}  {r : Int} {σ' : mMem}   (n : Nat) : ∀ {x1 x2 : Int} {σ : mMem} (_ : g_X8_open_h9 F n x1 x2 σ = some (r, σ')), ∀ q j, ¬ T_X8_open  q j → σ' q j = σ q j := by
  induction n with
  | zero =>
    intro x1 x2 σ hf
    unfold g_X8_open_h9 at hf
    cases hf
  | succ n ih =>
    have hk9 : ∀ (x1 x2 : Int) (σ : mMem), g_X8_open_h9 F n x1 x2 σ = some (r, σ') → ∀ q j, ¬ T_X8_open  q j → σ' q j = σ q j := fun x1 x2 σ hf => ih hf
    intro x1 x2 σ hf
    unfold g_X8_open_h9 at hf
    have hs : ∀ q j, ¬ T_X8_open  q j → σ q j = σ q j := fun _ _ _ => rfl
    refine f_ite hf (fun hf => ?_) (fun hf => ?_)
    · exact fun q j hq => (f_X8_open_b36 hf q j hq).trans (hs q j hq)
    · refine f_ite hf (fun hf => ?_) (fun hf => ?_)
      · exact fun q j hq => (f_X8_open_b36 hf q j hq).trans (hs q j hq)
      · refine f_mob hf (fun r102 σ103 h1 hf => ?_)
        have hs := fun q j hq => (f_X8_scan h1 q j (by unfold T_X8_open at hq; unfold T_X8_scan; omega)).trans (hs q j hq)
        exact fun q j hq => (hk9 _ _ _ hf q j hq).trans (hs q j hq)
theorem f_X8_open {F : Nat}  {r : Int} {σ' : mMem} {σ : mMem} (hf : g_X8_open F σ = some (r, σ')) : ∀ q j, ¬ T_X8_open  q j → σ' q j = σ q j := by
  unfold g_X8_open at hf
  have hs : ∀ q j, ¬ T_X8_open  q j → σ q j = σ q j := fun _ _ _ => rfl
  refine f_mem hf (fun q j hq => (mup_ne (by unfold T_X8_open at hq; omega)).trans (hs q j hq)) (fun σ1 hs hf => ?_)
  exact fun q j hq => (f_X8_open_h9 _ hf q j hq).trans (hs q j hq)
def T_X8_refuseMore  (q j : Nat) : Prop := (q = 14 ∧ (j = 7 ∨ j = 8 ∨ j = 9 ∨ j = 10 ∨ j = 11))
theorem f_X8_refuseMore_b44 {F : Nat}  {r : Int} {σ' : mMem}   {σ : mMem} (hf : g_X8_refuseMore_b44 F  σ = some (r, σ')) : ∀ q j, ¬ T_X8_refuseMore  q j → σ' q j = σ q j := by
  unfold g_X8_refuseMore_b44 at hf
  have hs : ∀ q j, ¬ T_X8_refuseMore  q j → σ q j = σ q j := fun _ _ _ => rfl
  cases hf
  exact hs
theorem f_X8_refuseMore {F : Nat}  {r : Int} {σ' : mMem} {σ : mMem} (hf : g_X8_refuseMore F σ = some (r, σ')) : ∀ q j, ¬ T_X8_refuseMore  q j → σ' q j = σ q j := by
  unfold g_X8_refuseMore at hf
  have hs : ∀ q j, ¬ T_X8_refuseMore  q j → σ q j = σ q j := fun _ _ _ => rfl
  refine f_let hf (fun y1 hf => ?_)
  refine f_ite hf (fun hf => ?_) (fun hf => ?_)
  · exact fun q j hq => (f_X8_refuseMore_b44 hf q j hq).trans (hs q j hq)
  · refine f_ite hf (fun hf => ?_) (fun hf => ?_)
    · exact fun q j hq => (f_X8_refuseMore_b44 hf q j hq).trans (hs q j hq)
    · refine f_ite hf (fun hf => ?_) (fun hf => ?_)
      · exact fun q j hq => (f_X8_refuseMore_b44 hf q j hq).trans (hs q j hq)
      · refine f_gd hf (fun hf => ?_)
        refine f_mem hf (fun q j hq => (mup_ne (by unfold T_X8_refuseMore at hq; omega)).trans (hs q j hq)) (fun σ2 hs hf => ?_)
        refine f_mob hf (fun r3 σ4 h1 hf => ?_)
        have hs := fun q j hq => (f_X8_refuseHere h1 q j (by unfold T_X8_refuseMore at hq; unfold T_X8_refuseHere; omega)).trans (hs q j hq)
        exact fun q j hq => (f_X8_refuseMore_b44 hf q j hq).trans (hs q j hq)
def T_X6_readInto (p1 : Nat) (q j : Nat) : Prop := (q = 3 ∧ (j = 4 ∨ j = 5 ∨ j = 6 ∨ j = 7 ∨ j = 8 ∨ j = 9 ∨ j = 10 ∨ j = 11 ∨ j = 12 ∨ j = 13 ∨ j = 14)) ∨ q = 4 ∨ q = 5 ∨ q = 6 ∨ q = 7 ∨ (q = 8 ∧ (j = 4 ∨ j = 5 ∨ j = 6 ∨ j = 7 ∨ j = 8 ∨ j = 9 ∨ j = 10 ∨ j = 11 ∨ j = 12 ∨ j = 13 ∨ j = 14)) ∨ q = 9 ∨ q = 10 ∨ q = 11 ∨ q = 12 ∨ (q = 13 ∧ (j = 2)) ∨ (q = 14 ∧ (j = 5 ∨ j = 6 ∨ j = 7 ∨ j = 8 ∨ j = 9 ∨ j = 10 ∨ j = 11)) ∨ q = 16 ∨ q = 17 ∨ q = 18 ∨ (q = 19 ∧ (j = 1 ∨ j = 2))
theorem f_X6_readInto_b87 {F : Nat} {p1 : Nat} {r : Int} {σ' : mMem}   {x2 : Int} {σ : mMem} (hf : g_X6_readInto_b87 F p1 x2 σ = some (r, σ')) : ∀ q j, ¬ T_X6_readInto p1 q j → σ' q j = σ q j := by
  unfold g_X6_readInto_b87 at hf
  have hs : ∀ q j, ¬ T_X6_readInto p1 q j → σ q j = σ q j := fun _ _ _ => rfl
  cases hf
  exact hs
theorem f_X6_readInto_b62 {F : Nat} {p1 : Nat} {r : Int} {σ' : mMem} {k21 : Int → mMem → mRs} (hk21 : ∀ (x2 : Int) (σ : mMem), k21 x2 σ = some (r, σ') → ∀ q j, ¬ T_X6_readInto p1 q j → σ' q j = σ q j) {x2 : Int} {σ : mMem} (hf : g_X6_readInto_b62 F p1 k21 x2 σ = some (r, σ')) : ∀ q j, ¬ T_X6_readInto p1 q j → σ' q j = σ q j := by
  unfold g_X6_readInto_b62 at hf
  have hs : ∀ q j, ¬ T_X6_readInto p1 q j → σ q j = σ q j := fun _ _ _ => rfl
  refine f_mob hf (fun r313 σ314 h1 hf => ?_)
  have hs := fun q j hq => (f_X8_takeMark h1 q j (by unfold T_X6_readInto at hq; unfold T_X8_takeMark; omega)).trans (hs q j hq)
  refine f_ite hf (fun hf => ?_) (fun hf => ?_)
  · exact fun q j hq => (f_X6_readInto_b87 hf q j hq).trans (hs q j hq)
  · refine f_ite hf (fun hf => ?_) (fun hf => ?_)
    · exact fun q j hq => (hk21 _ _ hf q j hq).trans (hs q j hq)
    · exact fun q j hq => (f_X6_readInto_b87 hf q j hq).trans (hs q j hq)
theorem f_X6_readInto_b31 {F : Nat} {p1 : Nat} {r : Int} {σ' : mMem} {k21 : Int → mMem → mRs} (hk21 : ∀ (x2 : Int) (σ : mMem), k21 x2 σ = some (r, σ') → ∀ q j, ¬ T_X6_readInto p1 q j → σ' q j = σ q j) {x2 t0 : Int} {σ : mMem} (hf : g_X6_readInto_b31 F p1 k21 x2 t0 σ = some (r, σ')) : ∀ q j, ¬ T_X6_readInto p1 q j → σ' q j = σ q j := by
  unfold g_X6_readInto_b31 at hf
  have hs : ∀ q j, ¬ T_X6_readInto p1 q j → σ q j = σ q j := fun _ _ _ => rfl
  refine f_mob hf (fun r207 σ208 h1 hf => ?_)
  have hs := fun q j hq => (f_X6_readStatement h1 q j (by unfold T_X6_readInto at hq; unfold T_X6_readStatement; omega)).trans (hs q j hq)
  refine f_ite hf (fun hf => ?_) (fun hf => ?_)
  · exact fun q j hq => (f_X6_readInto_b62 hk21 hf q j hq).trans (hs q j hq)
  · refine f_mob hf (fun r209 σ210 h1 hf => ?_)
    have hs := fun q j hq => (f_X8_isMark h1 q j (by unfold T_X8_isMark; exact id)).trans (hs q j hq)
    refine f_ite hf (fun hf => ?_) (fun hf => ?_)
    · exact fun q j hq => (f_X6_readInto_b62 hk21 hf q j hq).trans (hs q j hq)
    · refine f_mob hf (fun r211 σ212 h1 hf => ?_)
      have hs := fun q j hq => (f_X8_refuseMore h1 q j (by unfold T_X6_readInto at hq; unfold T_X8_refuseMore; omega)).trans (hs q j hq)
      exact fun q j hq => (f_X6_readInto_b62 hk21 hf q j hq).trans (hs q j hq)
theorem f_X6_readInto_h21 {F : Nat} {p1 : Nat} {r : Int} {σ' : mMem}   (n : Nat) : ∀ {x2 : Int} {σ : mMem} (_ : g_X6_readInto_h21 F p1 n x2 σ = some (r, σ')), ∀ q j, ¬ T_X6_readInto p1 q j → σ' q j = σ q j := by
  induction n with
  | zero =>
    intro x2 σ hf
    unfold g_X6_readInto_h21 at hf
    cases hf
  | succ n ih =>
    have hk21 : ∀ (x2 : Int) (σ : mMem), g_X6_readInto_h21 F p1 n x2 σ = some (r, σ') → ∀ q j, ¬ T_X6_readInto p1 q j → σ' q j = σ q j := fun x2 σ hf => ih hf
    intro x2 σ hf
    unfold g_X6_readInto_h21 at hf
    have hs : ∀ q j, ¬ T_X6_readInto p1 q j → σ q j = σ q j := fun _ _ _ => rfl
    refine f_ite hf (fun hf => ?_) (fun hf => ?_)
    · exact fun q j hq => (f_X6_readInto_b31 hk21 hf q j hq).trans (hs q j hq)
    · exact fun q j hq => (f_X6_readInto_b31 hk21 hf q j hq).trans (hs q j hq)
theorem f_X6_readInto {F : Nat} {p1 : Nat} {r : Int} {σ' : mMem} {σ : mMem} (hf : g_X6_readInto F p1 σ = some (r, σ')) : ∀ q j, ¬ T_X6_readInto p1 q j → σ' q j = σ q j := by
  unfold g_X6_readInto at hf
  have hs : ∀ q j, ¬ T_X6_readInto p1 q j → σ q j = σ q j := fun _ _ _ => rfl
  refine f_mem hf (fun q j hq => (mup_ne (by unfold T_X6_readInto at hq; omega)).trans (hs q j hq)) (fun σ1 hs hf => ?_)
  refine f_gp hf (fun hg2 hf => ?_)
  refine f_mob hf (fun r3 σ4 h1 hf => ?_)
  have hs := fun q j hq => (f_X5_clear h1 q j (by unfold T_X6_readInto at hq; unfold T_X5_clear; rcases hg2 with hz | hz <;> rw [hz] <;> omega)).trans (hs q j hq)
  refine f_mob hf (fun r5 σ6 h1 hf => ?_)
  have hs := fun q j hq => (f_X8_open h1 q j (by unfold T_X6_readInto at hq; unfold T_X8_open; omega)).trans (hs q j hq)
  exact fun q j hq => (f_X6_readInto_h21 _ hf q j hq).trans (hs q j hq)
def T_X7_hasSpaceFor  (q j : Nat) : Prop := False
theorem f_X7_hasSpaceFor_b17 {F : Nat}  {r : Int} {σ' : mMem}   {t0 : Int} {σ : mMem} (hf : g_X7_hasSpaceFor_b17 F t0 σ = some (r, σ')) : ∀ q j, ¬ T_X7_hasSpaceFor  q j → σ' q j = σ q j := by
  unfold g_X7_hasSpaceFor_b17 at hf
  have hs : ∀ q j, ¬ T_X7_hasSpaceFor  q j → σ q j = σ q j := fun _ _ _ => rfl
  refine f_gd hf (fun hf => ?_)
  cases hf
  exact hs
theorem f_X7_hasSpaceFor {F : Nat}  {r : Int} {σ' : mMem} {x1 : Int} {σ : mMem} (hf : g_X7_hasSpaceFor F x1 σ = some (r, σ')) : ∀ q j, ¬ T_X7_hasSpaceFor  q j → σ' q j = σ q j := by
  unfold g_X7_hasSpaceFor at hf
  have hs : ∀ q j, ¬ T_X7_hasSpaceFor  q j → σ q j = σ q j := fun _ _ _ => rfl
  refine f_ite hf (fun hf => ?_) (fun hf => ?_)
  · exact fun q j hq => (f_X7_hasSpaceFor_b17 hf q j hq).trans (hs q j hq)
  · exact fun q j hq => (f_X7_hasSpaceFor_b17 hf q j hq).trans (hs q j hq)
def T_X7_add  (q j : Nat) : Prop := (q = 1 ∧ (j = 1)) ∨ q = 2
theorem f_X7_add_b50 {F : Nat}  {r : Int} {σ' : mMem} {k3 : Int → Int → mMem → mRs} (hk3 : ∀ (x1 x2 : Int) (σ : mMem), k3 x1 x2 σ = some (r, σ') → ∀ q j, ¬ T_X7_add  q j → σ' q j = σ q j) {x1 x2 : Int} {σ : mMem} (hf : g_X7_add_b50 F k3 x1 x2 σ = some (r, σ')) : ∀ q j, ¬ T_X7_add  q j → σ' q j = σ q j := by
  unfold g_X7_add_b50 at hf
  have hs : ∀ q j, ¬ T_X7_add  q j → σ q j = σ q j := fun _ _ _ => rfl
  exact fun q j hq => (hk3 _ _ _ hf q j hq).trans (hs q j hq)
theorem f_X7_add_h3 {F : Nat}  {r : Int} {σ' : mMem}   (n : Nat) : ∀ {x1 x2 : Int} {σ : mMem} (_ : g_X7_add_h3 F n x1 x2 σ = some (r, σ')), ∀ q j, ¬ T_X7_add  q j → σ' q j = σ q j := by
  induction n with
  | zero =>
    intro x1 x2 σ hf
    unfold g_X7_add_h3 at hf
    cases hf
  | succ n ih =>
    have hk3 : ∀ (x1 x2 : Int) (σ : mMem), g_X7_add_h3 F n x1 x2 σ = some (r, σ') → ∀ q j, ¬ T_X7_add  q j → σ' q j = σ q j := fun x1 x2 σ hf => ih hf
    intro x1 x2 σ hf
    unfold g_X7_add_h3 at hf
    have hs : ∀ q j, ¬ T_X7_add  q j → σ q j = σ q j := fun _ _ _ => rfl
    refine f_ite hf (fun hf => ?_) (fun hf => ?_)
    · cases hf
      exact hs
    · refine f_ite hf (fun hf => ?_) (fun hf => ?_)
      · exact fun q j hq => (f_X7_add_b50 hk3 hf q j hq).trans (hs q j hq)
      · refine f_ite hf (fun hf => ?_) (fun hf => ?_)
        · exact fun q j hq => (f_X7_add_b50 hk3 hf q j hq).trans (hs q j hq)
        · refine f_gd hf (fun hf => ?_)
          refine f_mem hf (fun q j hq => (mup_ne (by unfold T_X7_add at hq; omega)).trans (hs q j hq)) (fun σ101 hs hf => ?_)
          refine f_mem hf (fun q j hq => (mup_ne (by unfold T_X7_add at hq; omega)).trans (hs q j hq)) (fun σ102 hs hf => ?_)
          exact fun q j hq => (f_X7_add_b50 hk3 hf q j hq).trans (hs q j hq)
theorem f_X7_add {F : Nat}  {r : Int} {σ' : mMem} {x1 : Int} {σ : mMem} (hf : g_X7_add F x1 σ = some (r, σ')) : ∀ q j, ¬ T_X7_add  q j → σ' q j = σ q j := by
  unfold g_X7_add at hf
  have hs : ∀ q j, ¬ T_X7_add  q j → σ q j = σ q j := fun _ _ _ => rfl
  exact fun q j hq => (f_X7_add_h3 _ hf q j hq).trans (hs q j hq)
def T_X9_forget  (q j : Nat) : Prop := (q = 35 ∧ (j = 3))
theorem f_X9_forget {F : Nat}  {r : Int} {σ' : mMem} {σ : mMem} (hf : g_X9_forget F σ = some (r, σ')) : ∀ q j, ¬ T_X9_forget  q j → σ' q j = σ q j := by
  unfold g_X9_forget at hf
  have hs : ∀ q j, ¬ T_X9_forget  q j → σ q j = σ q j := fun _ _ _ => rfl
  refine f_mem hf (fun q j hq => (mup_ne (by unfold T_X9_forget at hq; omega)).trans (hs q j hq)) (fun σ1 hs hf => ?_)
  cases hf
  exact hs
def T_X9_takeRows (p2 : Nat) (q j : Nat) : Prop := (q = 35 ∧ (j = 3)) ∨ q = 36
theorem f_X9_takeRows_b28 {F : Nat} {p2 : Nat} {r : Int} {σ' : mMem}   {σ : mMem} (hf : g_X9_takeRows_b28 F p2  σ = some (r, σ')) : ∀ q j, ¬ T_X9_takeRows p2 q j → σ' q j = σ q j := by
  unfold g_X9_takeRows_b28 at hf
  have hs : ∀ q j, ¬ T_X9_takeRows p2 q j → σ q j = σ q j := fun _ _ _ => rfl
  refine f_gd hf (fun hf => ?_)
  cases hf
  exact hs
theorem f_X9_takeRows_b127 {F : Nat} {p2 : Nat} {r : Int} {σ' : mMem}   {x3 : Int} {σ : mMem} (hf : g_X9_takeRows_b127 F p2 x3 σ = some (r, σ')) : ∀ q j, ¬ T_X9_takeRows p2 q j → σ' q j = σ q j := by
  unfold g_X9_takeRows_b127 at hf
  have hs : ∀ q j, ¬ T_X9_takeRows p2 q j → σ q j = σ q j := fun _ _ _ => rfl
  refine f_mem hf (fun q j hq => (mup_ne (by unfold T_X9_takeRows at hq; omega)).trans (hs q j hq)) (fun σ513 hs hf => ?_)
  refine f_gd hf (fun hf => ?_)
  cases hf
  exact hs
theorem f_X9_takeRows_h90 {F : Nat} {p2 : Nat} {r : Int} {σ' : mMem}   (n : Nat) : ∀ {x3 x4 : Int} {σ : mMem} (_ : g_X9_takeRows_h90 F p2 n x3 x4 σ = some (r, σ')), ∀ q j, ¬ T_X9_takeRows p2 q j → σ' q j = σ q j := by
  induction n with
  | zero =>
    intro x3 x4 σ hf
    unfold g_X9_takeRows_h90 at hf
    cases hf
  | succ n ih =>
    have hk90 : ∀ (x3 x4 : Int) (σ : mMem), g_X9_takeRows_h90 F p2 n x3 x4 σ = some (r, σ') → ∀ q j, ¬ T_X9_takeRows p2 q j → σ' q j = σ q j := fun x3 x4 σ hf => ih hf
    intro x3 x4 σ hf
    unfold g_X9_takeRows_h90 at hf
    have hs : ∀ q j, ¬ T_X9_takeRows p2 q j → σ q j = σ q j := fun _ _ _ => rfl
    refine f_ite hf (fun hf => ?_) (fun hf => ?_)
    · exact fun q j hq => (f_X9_takeRows_b127 hf q j hq).trans (hs q j hq)
    · refine f_ite hf (fun hf => ?_) (fun hf => ?_)
      · exact fun q j hq => (f_X9_takeRows_b127 hf q j hq).trans (hs q j hq)
      · refine f_mob hf (fun r310 σ311 h1 hf => ?_)
        have hs := fun q j hq => (f_X7_at h1 q j (by unfold T_X7_at; exact id)).trans (hs q j hq)
        refine f_gd hf (fun hf => ?_)
        refine f_mem hf (fun q j hq => (mup_ne (by unfold T_X9_takeRows at hq; omega)).trans (hs q j hq)) (fun σ312 hs hf => ?_)
        exact fun q j hq => (hk90 _ _ _ hf q j hq).trans (hs q j hq)
theorem f_X9_takeRows_b79 {F : Nat} {p2 : Nat} {r : Int} {σ' : mMem}   {σ : mMem} (hf : g_X9_takeRows_b79 F p2  σ = some (r, σ')) : ∀ q j, ¬ T_X9_takeRows p2 q j → σ' q j = σ q j := by
  unfold g_X9_takeRows_b79 at hf
  have hs : ∀ q j, ¬ T_X9_takeRows p2 q j → σ q j = σ q j := fun _ _ _ => rfl
  refine f_gd hf (fun hf => ?_)
  cases hf
  exact hs
theorem f_X9_takeRows_h33 {F : Nat} {p2 : Nat} {r : Int} {σ' : mMem}   (n : Nat) : ∀ {x3 x4 : Int} {σ : mMem} (_ : g_X9_takeRows_h33 F p2 n x3 x4 σ = some (r, σ')), ∀ q j, ¬ T_X9_takeRows p2 q j → σ' q j = σ q j := by
  induction n with
  | zero =>
    intro x3 x4 σ hf
    unfold g_X9_takeRows_h33 at hf
    cases hf
  | succ n ih =>
    have hk33 : ∀ (x3 x4 : Int) (σ : mMem), g_X9_takeRows_h33 F p2 n x3 x4 σ = some (r, σ') → ∀ q j, ¬ T_X9_takeRows p2 q j → σ' q j = σ q j := fun x3 x4 σ hf => ih hf
    intro x3 x4 σ hf
    unfold g_X9_takeRows_h33 at hf
    have hs : ∀ q j, ¬ T_X9_takeRows p2 q j → σ q j = σ q j := fun _ _ _ => rfl
    refine f_ite hf (fun hf => ?_) (fun hf => ?_)
    · exact fun q j hq => (f_X9_takeRows_h90 _ hf q j hq).trans (hs q j hq)
    · refine f_mob hf (fun r202 σ203 h1 hf => ?_)
      have hs := fun q j hq => (f_X7_at h1 q j (by unfold T_X7_at; exact id)).trans (hs q j hq)
      refine f_ite hf (fun hf => ?_) (fun hf => ?_)
      · exact fun q j hq => (f_X9_takeRows_b79 hf q j hq).trans (hs q j hq)
      · refine f_mob hf (fun r204 σ205 h1 hf => ?_)
        have hs := fun q j hq => (f_X7_at h1 q j (by unfold T_X7_at; exact id)).trans (hs q j hq)
        refine f_mob hf (fun r206 σ207 h1 hf => ?_)
        have hs := fun q j hq => (f_X7_at h1 q j (by unfold T_X7_at; exact id)).trans (hs q j hq)
        refine f_mob hf (fun r208 σ209 h1 hf => ?_)
        have hs := fun q j hq => (f_X5_hasCell h1 q j (by unfold T_X5_hasCell; exact id)).trans (hs q j hq)
        refine f_ite hf (fun hf => ?_) (fun hf => ?_)
        · exact fun q j hq => (hk33 _ _ _ hf q j hq).trans (hs q j hq)
        · exact fun q j hq => (f_X9_takeRows_b79 hf q j hq).trans (hs q j hq)
theorem f_X9_takeRows {F : Nat} {p2 : Nat} {r : Int} {σ' : mMem} {σ : mMem} (hf : g_X9_takeRows F p2 σ = some (r, σ')) : ∀ q j, ¬ T_X9_takeRows p2 q j → σ' q j = σ q j := by
  unfold g_X9_takeRows at hf
  have hs : ∀ q j, ¬ T_X9_takeRows p2 q j → σ q j = σ q j := fun _ _ _ => rfl
  refine f_dv hf (fun hf => ?_)
  refine f_let hf (fun y1 hf => ?_)
  refine f_ite hf (fun hf => ?_) (fun hf => ?_)
  · exact fun q j hq => (f_X9_takeRows_b28 hf q j hq).trans (hs q j hq)
  · refine f_ite hf (fun hf => ?_) (fun hf => ?_)
    · exact fun q j hq => (f_X9_takeRows_b28 hf q j hq).trans (hs q j hq)
    · refine f_ite hf (fun hf => ?_) (fun hf => ?_)
      · exact fun q j hq => (f_X9_takeRows_h33 _ hf q j hq).trans (hs q j hq)
      · exact fun q j hq => (f_X9_takeRows_b28 hf q j hq).trans (hs q j hq)
def T_X9_fitsRows  (q j : Nat) : Prop := False
theorem f_X9_fitsRows_b110 {F : Nat}  {r : Int} {σ' : mMem}   {x2 : Int} {σ : mMem} (hf : g_X9_fitsRows_b110 F x2 σ = some (r, σ')) : ∀ q j, ¬ T_X9_fitsRows  q j → σ' q j = σ q j := by
  unfold g_X9_fitsRows_b110 at hf
  have hs : ∀ q j, ¬ T_X9_fitsRows  q j → σ q j = σ q j := fun _ _ _ => rfl
  refine f_gd hf (fun hf => ?_)
  cases hf
  exact hs
theorem f_X9_fitsRows_b103 {F : Nat}  {r : Int} {σ' : mMem} {k18 : Int → Int → Int → mMem → mRs} (hk18 : ∀ (x1 x2 x3 : Int) (σ : mMem), k18 x1 x2 x3 σ = some (r, σ') → ∀ q j, ¬ T_X9_fitsRows  q j → σ' q j = σ q j) {x1 x3 t0 : Int} {σ : mMem} (hf : g_X9_fitsRows_b103 F k18 x1 x3 t0 σ = some (r, σ')) : ∀ q j, ¬ T_X9_fitsRows  q j → σ' q j = σ q j := by
  unfold g_X9_fitsRows_b103 at hf
  have hs : ∀ q j, ¬ T_X9_fitsRows  q j → σ q j = σ q j := fun _ _ _ => rfl
  exact fun q j hq => (hk18 _ _ _ _ hf q j hq).trans (hs q j hq)
theorem f_X9_fitsRows_b102 {F : Nat}  {r : Int} {σ' : mMem} {k18 : Int → Int → Int → mMem → mRs} (hk18 : ∀ (x1 x2 x3 : Int) (σ : mMem), k18 x1 x2 x3 σ = some (r, σ') → ∀ q j, ¬ T_X9_fitsRows  q j → σ' q j = σ q j) {x1 x3 : Int} {σ : mMem} (hf : g_X9_fitsRows_b102 F k18 x1 x3 σ = some (r, σ')) : ∀ q j, ¬ T_X9_fitsRows  q j → σ' q j = σ q j := by
  unfold g_X9_fitsRows_b102 at hf
  have hs : ∀ q j, ¬ T_X9_fitsRows  q j → σ q j = σ q j := fun _ _ _ => rfl
  exact fun q j hq => (f_X9_fitsRows_b103 hk18 hf q j hq).trans (hs q j hq)
theorem f_X9_fitsRows_h18 {F : Nat}  {r : Int} {σ' : mMem}   (n : Nat) : ∀ {x1 x2 x3 : Int} {σ : mMem} (_ : g_X9_fitsRows_h18 F n x1 x2 x3 σ = some (r, σ')), ∀ q j, ¬ T_X9_fitsRows  q j → σ' q j = σ q j := by
  induction n with
  | zero =>
    intro x1 x2 x3 σ hf
    unfold g_X9_fitsRows_h18 at hf
    cases hf
  | succ n ih =>
    have hk18 : ∀ (x1 x2 x3 : Int) (σ : mMem), g_X9_fitsRows_h18 F n x1 x2 x3 σ = some (r, σ') → ∀ q j, ¬ T_X9_fitsRows  q j → σ' q j = σ q j := fun x1 x2 x3 σ hf => ih hf
    intro x1 x2 x3 σ hf
    unfold g_X9_fitsRows_h18 at hf
    have hs : ∀ q j, ¬ T_X9_fitsRows  q j → σ q j = σ q j := fun _ _ _ => rfl
    refine f_ite hf (fun hf => ?_) (fun hf => ?_)
    · exact fun q j hq => (f_X9_fitsRows_b110 hf q j hq).trans (hs q j hq)
    · refine f_ite hf (fun hf => ?_) (fun hf => ?_)
      · exact fun q j hq => (f_X9_fitsRows_b110 hf q j hq).trans (hs q j hq)
      · refine f_ite hf (fun hf => ?_) (fun hf => ?_)
        · exact fun q j hq => (f_X9_fitsRows_b110 hf q j hq).trans (hs q j hq)
        · refine f_gd hf (fun hf => ?_)
          refine f_let hf (fun y301 hf => ?_)
          refine f_gd hf (fun hf => ?_)
          refine f_gd hf (fun hf => ?_)
          refine f_let hf (fun y302 hf => ?_)
          refine f_ite hf (fun hf => ?_) (fun hf => ?_)
          · exact fun q j hq => (f_X9_fitsRows_b102 hk18 hf q j hq).trans (hs q j hq)
          · refine f_ite hf (fun hf => ?_) (fun hf => ?_)
            · exact fun q j hq => (f_X9_fitsRows_b102 hk18 hf q j hq).trans (hs q j hq)
            · refine f_ga hf (fun hj303 hf => ?_)
              refine f_gd hf (fun hf => ?_)
              refine f_ite hf (fun hf => ?_) (fun hf => ?_)
              · exact fun q j hq => (f_X9_fitsRows_b102 hk18 hf q j hq).trans (hs q j hq)
              · exact fun q j hq => (f_X9_fitsRows_b103 hk18 hf q j hq).trans (hs q j hq)
theorem f_X9_fitsRows_b15 {F : Nat}  {r : Int} {σ' : mMem}   {x1 t0 : Int} {σ : mMem} (hf : g_X9_fitsRows_b15 F x1 t0 σ = some (r, σ')) : ∀ q j, ¬ T_X9_fitsRows  q j → σ' q j = σ q j := by
  unfold g_X9_fitsRows_b15 at hf
  have hs : ∀ q j, ¬ T_X9_fitsRows  q j → σ q j = σ q j := fun _ _ _ => rfl
  exact fun q j hq => (f_X9_fitsRows_h18 _ hf q j hq).trans (hs q j hq)
theorem f_X9_fitsRows_b14 {F : Nat}  {r : Int} {σ' : mMem}   {x1 : Int} {σ : mMem} (hf : g_X9_fitsRows_b14 F x1 σ = some (r, σ')) : ∀ q j, ¬ T_X9_fitsRows  q j → σ' q j = σ q j := by
  unfold g_X9_fitsRows_b14 at hf
  have hs : ∀ q j, ¬ T_X9_fitsRows  q j → σ q j = σ q j := fun _ _ _ => rfl
  exact fun q j hq => (f_X9_fitsRows_b15 hf q j hq).trans (hs q j hq)
theorem f_X9_fitsRows {F : Nat}  {r : Int} {σ' : mMem} {x1 : Int} {σ : mMem} (hf : g_X9_fitsRows F x1 σ = some (r, σ')) : ∀ q j, ¬ T_X9_fitsRows  q j → σ' q j = σ q j := by
  unfold g_X9_fitsRows at hf
  have hs : ∀ q j, ¬ T_X9_fitsRows  q j → σ q j = σ q j := fun _ _ _ => rfl
  refine f_ite hf (fun hf => ?_) (fun hf => ?_)
  · exact fun q j hq => (f_X9_fitsRows_b14 hf q j hq).trans (hs q j hq)
  · refine f_ite hf (fun hf => ?_) (fun hf => ?_)
    · exact fun q j hq => (f_X9_fitsRows_b14 hf q j hq).trans (hs q j hq)
    · exact fun q j hq => (f_X9_fitsRows_b15 hf q j hq).trans (hs q j hq)
def T_X9_bitsLeft  (q j : Nat) : Prop := False
theorem f_X9_bitsLeft_b26 {F : Nat}  {r : Int} {σ' : mMem} {k4 : Int → Int → mMem → mRs} (hk4 : ∀ (x1 x2 : Int) (σ : mMem), k4 x1 x2 σ = some (r, σ') → ∀ q j, ¬ T_X9_bitsLeft  q j → σ' q j = σ q j) {x2 t0 t1 : Int} {σ : mMem} (hf : g_X9_bitsLeft_b26 F k4 x2 t0 t1 σ = some (r, σ')) : ∀ q j, ¬ T_X9_bitsLeft  q j → σ' q j = σ q j := by
  unfold g_X9_bitsLeft_b26 at hf
  have hs : ∀ q j, ¬ T_X9_bitsLeft  q j → σ q j = σ q j := fun _ _ _ => rfl
  refine f_let hf (fun y203 hf => ?_)
  exact fun q j hq => (hk4 _ _ _ hf q j hq).trans (hs q j hq)
theorem f_X9_bitsLeft_h4 {F : Nat}  {r : Int} {σ' : mMem}   (n : Nat) : ∀ {x1 x2 : Int} {σ : mMem} (_ : g_X9_bitsLeft_h4 F n x1 x2 σ = some (r, σ')), ∀ q j, ¬ T_X9_bitsLeft  q j → σ' q j = σ q j := by
  induction n with
  | zero =>
    intro x1 x2 σ hf
    unfold g_X9_bitsLeft_h4 at hf
    cases hf
  | succ n ih =>
    have hk4 : ∀ (x1 x2 : Int) (σ : mMem), g_X9_bitsLeft_h4 F n x1 x2 σ = some (r, σ') → ∀ q j, ¬ T_X9_bitsLeft  q j → σ' q j = σ q j := fun x1 x2 σ hf => ih hf
    intro x1 x2 σ hf
    unfold g_X9_bitsLeft_h4 at hf
    have hs : ∀ q j, ¬ T_X9_bitsLeft  q j → σ q j = σ q j := fun _ _ _ => rfl
    refine f_ite hf (fun hf => ?_) (fun hf => ?_)
    · cases hf
      exact hs
    · refine f_mob hf (fun r101 σ102 h1 hf => ?_)
      have hs := fun q j hq => (f_X9_fitsRows h1 q j (by unfold T_X9_fitsRows; exact id)).trans (hs q j hq)
      refine f_ite hf (fun hf => ?_) (fun hf => ?_)
      · exact fun q j hq => (f_X9_bitsLeft_b26 hk4 hf q j hq).trans (hs q j hq)
      · exact fun q j hq => (f_X9_bitsLeft_b26 hk4 hf q j hq).trans (hs q j hq)
theorem f_X9_bitsLeft {F : Nat}  {r : Int} {σ' : mMem} {σ : mMem} (hf : g_X9_bitsLeft F σ = some (r, σ')) : ∀ q j, ¬ T_X9_bitsLeft  q j → σ' q j = σ q j := by
  unfold g_X9_bitsLeft at hf
  have hs : ∀ q j, ¬ T_X9_bitsLeft  q j → σ q j = σ q j := fun _ _ _ => rfl
  exact fun q j hq => (f_X9_bitsLeft_h4 _ hf q j hq).trans (hs q j hq)
def T_X9_placeOf  (q j : Nat) : Prop := False
theorem f_X9_placeOf {F : Nat}  {r : Int} {σ' : mMem} {x1 : Int} {σ : mMem} (hf : g_X9_placeOf F x1 σ = some (r, σ')) : ∀ q j, ¬ T_X9_placeOf  q j → σ' q j = σ q j := by
  unfold g_X9_placeOf at hf
  have hs : ∀ q j, ¬ T_X9_placeOf  q j → σ q j = σ q j := fun _ _ _ => rfl
  refine f_mob hf (fun r1 σ2 h1 hf => ?_)
  have hs := fun q j hq => (f_X10_of h1 q j (by unfold T_X10_of; exact id)).trans (hs q j hq)
  refine f_mob hf (fun r3 σ4 h1 hf => ?_)
  have hs := fun q j hq => (f_X10_of h1 q j (by unfold T_X10_of; exact id)).trans (hs q j hq)
  cases hf
  exact hs
def T_X9_followAll (w1 : Nat) (q j : Nat) : Prop := q = 38 ∨ q = 39 ∨ q = 40 ∨ q = 41 ∨ q = 42 ∨ q = 43 ∨ q = 44 ∨ q = 45 ∨ q = 46 ∨ q = 47 ∨ (q = 48 ∧ (j = 3 ∨ j = 4 ∨ j = 5 ∨ j = 6 ∨ j = 7)) ∨ q = 49 ∨ q = 50 ∨ q = 52 ∨ q = 53
theorem f_X9_followAll_b99 {F : Nat} {w1 : Nat} {r : Int} {σ' : mMem} {k10 : Int → Int → Int → mMem → mRs} (hk10 : ∀ (x2 x3 x4 : Int) (σ : mMem), k10 x2 x3 x4 σ = some (r, σ') → ∀ q j, ¬ T_X9_followAll w1 q j → σ' q j = σ q j) {x2 x3 x4 : Int} {σ : mMem} (hf : g_X9_followAll_b99 F w1 k10 x2 x3 x4 σ = some (r, σ')) : ∀ q j, ¬ T_X9_followAll w1 q j → σ' q j = σ q j := by
  unfold g_X9_followAll_b99 at hf
  have hs : ∀ q j, ¬ T_X9_followAll w1 q j → σ q j = σ q j := fun _ _ _ => rfl
  exact fun q j hq => (hk10 _ _ _ _ hf q j hq).trans (hs q j hq)
theorem f_X9_followAll_b78 {F : Nat} {w1 : Nat} {r : Int} {σ' : mMem} {k10 : Int → Int → Int → mMem → mRs} {k51 : Int → Int → Int → Int → mMem → mRs} (hk10 : ∀ (x2 x3 x4 : Int) (σ : mMem), k10 x2 x3 x4 σ = some (r, σ') → ∀ q j, ¬ T_X9_followAll w1 q j → σ' q j = σ q j) (hk51 : ∀ (x2 x3 x4 x5 : Int) (σ : mMem), k51 x2 x3 x4 x5 σ = some (r, σ') → ∀ q j, ¬ T_X9_followAll w1 q j → σ' q j = σ q j) {x2 x3 x4 x5 : Int} {σ : mMem} (hf : g_X9_followAll_b78 F w1 k10 k51 x2 x3 x4 x5 σ = some (r, σ')) : ∀ q j, ¬ T_X9_followAll w1 q j → σ' q j = σ q j := by
  unfold g_X9_followAll_b78 at hf
  have hs : ∀ q j, ¬ T_X9_followAll w1 q j → σ q j = σ q j := fun _ _ _ => rfl
  refine f_ga hf (fun hj412 hf => ?_)
  refine f_mob hf (fun r413 σ414 h1 hf => ?_)
  have hs := fun q j hq => (f_X9_placeOf h1 q j (by unfold T_X9_placeOf; exact id)).trans (hs q j hq)
  refine f_gd hf (fun hf => ?_)
  refine f_mem hf (fun q j hq => (mup_ne (by unfold T_X9_followAll at hq; omega)).trans (hs q j hq)) (fun σ415 hs hf => ?_)
  exact fun q j hq => (hk51 _ _ _ _ _ hf q j hq).trans (hs q j hq)
theorem f_X9_followAll_h51 {F : Nat} {w1 : Nat} {r : Int} {σ' : mMem} {k10 : Int → Int → Int → mMem → mRs} (hk10 : ∀ (x2 x3 x4 : Int) (σ : mMem), k10 x2 x3 x4 σ = some (r, σ') → ∀ q j, ¬ T_X9_followAll w1 q j → σ' q j = σ q j) (n : Nat) : ∀ {x2 x3 x4 x5 : Int} {σ : mMem} (_ : g_X9_followAll_h51 F w1 k10 n x2 x3 x4 x5 σ = some (r, σ')), ∀ q j, ¬ T_X9_followAll w1 q j → σ' q j = σ q j := by
  induction n with
  | zero =>
    intro x2 x3 x4 x5 σ hf
    unfold g_X9_followAll_h51 at hf
    cases hf
  | succ n ih =>
    have hk51 : ∀ (x2 x3 x4 x5 : Int) (σ : mMem), g_X9_followAll_h51 F w1 k10 n x2 x3 x4 x5 σ = some (r, σ') → ∀ q j, ¬ T_X9_followAll w1 q j → σ' q j = σ q j := fun x2 x3 x4 x5 σ hf => ih hf
    intro x2 x3 x4 x5 σ hf
    unfold g_X9_followAll_h51 at hf
    have hs : ∀ q j, ¬ T_X9_followAll w1 q j → σ q j = σ q j := fun _ _ _ => rfl
    refine f_ite hf (fun hf => ?_) (fun hf => ?_)
    · exact fun q j hq => (f_X9_followAll_b99 hk10 hf q j hq).trans (hs q j hq)
    · refine f_ite hf (fun hf => ?_) (fun hf => ?_)
      · exact fun q j hq => (f_X9_followAll_b99 hk10 hf q j hq).trans (hs q j hq)
      · refine f_ite hf (fun hf => ?_) (fun hf => ?_)
        · exact fun q j hq => (f_X9_followAll_b78 hk10 hk51 hf q j hq).trans (hs q j hq)
        · refine f_mob hf (fun r210 σ211 h1 hf => ?_)
          have hs := fun q j hq => (f_X10_pass h1 q j (by unfold T_X9_followAll at hq; unfold T_X10_pass; omega)).trans (hs q j hq)
          exact fun q j hq => (f_X9_followAll_b78 hk10 hk51 hf q j hq).trans (hs q j hq)
theorem f_X9_followAll_h10 {F : Nat} {w1 : Nat} {r : Int} {σ' : mMem}   (n : Nat) : ∀ {x2 x3 x4 : Int} {σ : mMem} (_ : g_X9_followAll_h10 F w1 n x2 x3 x4 σ = some (r, σ')), ∀ q j, ¬ T_X9_followAll w1 q j → σ' q j = σ q j := by
  induction n with
  | zero =>
    intro x2 x3 x4 σ hf
    unfold g_X9_followAll_h10 at hf
    cases hf
  | succ n ih =>
    have hk10 : ∀ (x2 x3 x4 : Int) (σ : mMem), g_X9_followAll_h10 F w1 n x2 x3 x4 σ = some (r, σ') → ∀ q j, ¬ T_X9_followAll w1 q j → σ' q j = σ q j := fun x2 x3 x4 σ hf => ih hf
    intro x2 x3 x4 σ hf
    unfold g_X9_followAll_h10 at hf
    have hs : ∀ q j, ¬ T_X9_followAll w1 q j → σ q j = σ q j := fun _ _ _ => rfl
    refine f_ite hf (fun hf => ?_) (fun hf => ?_)
    · cases hf
      exact hs
    · refine f_mob hf (fun r103 σ104 h1 hf => ?_)
      have hs := fun q j hq => (f_X10_copyFrom h1 q j (by unfold T_X9_followAll at hq; unfold T_X10_copyFrom; omega)).trans (hs q j hq)
      refine f_mob hf (fun r105 σ106 h1 hf => ?_)
      have hs := fun q j hq => (f_X10_set h1 q j (by unfold T_X9_followAll at hq; unfold T_X10_set; omega)).trans (hs q j hq)
      refine f_ga hf (fun hj107 hf => ?_)
      refine f_mob hf (fun r108 σ109 h1 hf => ?_)
      have hs := fun q j hq => (f_J7_fill_53178 h1 q j (by unfold T_X9_followAll at hq; unfold T_J7_fill_53178; omega)).trans (hs q j hq)
      exact fun q j hq => (f_X9_followAll_h51 hk10 _ hf q j hq).trans (hs q j hq)
theorem f_X9_followAll {F : Nat} {w1 : Nat} {r : Int} {σ' : mMem} {x2 : Int} {σ : mMem} (hf : g_X9_followAll F w1 x2 σ = some (r, σ')) : ∀ q j, ¬ T_X9_followAll w1 q j → σ' q j = σ q j := by
  unfold g_X9_followAll at hf
  have hs : ∀ q j, ¬ T_X9_followAll w1 q j → σ q j = σ q j := fun _ _ _ => rfl
  refine f_mob hf (fun r1 σ2 h1 hf => ?_)
  have hs := fun q j hq => (f_X10_comingSteps h1 q j (by unfold T_X10_comingSteps; exact id)).trans (hs q j hq)
  exact fun q j hq => (f_X9_followAll_h10 _ hf q j hq).trans (hs q j hq)
def T_X9_biasBits (w1 : Nat) (q j : Nat) : Prop := q = 38 ∨ q = 39 ∨ q = 40 ∨ q = 41 ∨ q = 42 ∨ q = 43 ∨ q = 44 ∨ q = 45 ∨ q = 46 ∨ q = 47 ∨ (q = 48 ∧ (j = 3 ∨ j = 4 ∨ j = 5 ∨ j = 6 ∨ j = 7)) ∨ q = 49 ∨ q = 50 ∨ q = 52 ∨ q = 53
theorem f_X9_biasBits {F : Nat} {w1 : Nat} {r : Int} {σ' : mMem} {x2 : Int} {σ : mMem} (hf : g_X9_biasBits F w1 x2 σ = some (r, σ')) : ∀ q j, ¬ T_X9_biasBits w1 q j → σ' q j = σ q j := by
  unfold g_X9_biasBits at hf
  have hs : ∀ q j, ¬ T_X9_biasBits w1 q j → σ q j = σ q j := fun _ _ _ => rfl
  refine f_mob hf (fun r1 σ2 h1 hf => ?_)
  have hs := fun q j hq => (f_X9_followAll h1 q j (by unfold T_X9_biasBits at hq; unfold T_X9_followAll; omega)).trans (hs q j hq)
  refine f_mob hf (fun r3 σ4 h1 hf => ?_)
  have hs := fun q j hq => (f_X9_bitsLeft h1 q j (by unfold T_X9_bitsLeft; exact id)).trans (hs q j hq)
  cases hf
  exact hs
def T_X9_mostLeft  (q j : Nat) : Prop := False
theorem f_X9_mostLeft_b112 {F : Nat}  {r : Int} {σ' : mMem}   {x3 : Int} {σ : mMem} (hf : g_X9_mostLeft_b112 F x3 σ = some (r, σ')) : ∀ q j, ¬ T_X9_mostLeft  q j → σ' q j = σ q j := by
  unfold g_X9_mostLeft_b112 at hf
  have hs : ∀ q j, ¬ T_X9_mostLeft  q j → σ q j = σ q j := fun _ _ _ => rfl
  cases hf
  exact hs
theorem f_X9_mostLeft_b90 {F : Nat}  {r : Int} {σ' : mMem} {k5 : Int → Int → Int → Int → mMem → mRs} {k28 : Int → Int → Int → Int → Int → Int → mMem → mRs} (hk5 : ∀ (x1 x2 x3 x4 : Int) (σ : mMem), k5 x1 x2 x3 x4 σ = some (r, σ') → ∀ q j, ¬ T_X9_mostLeft  q j → σ' q j = σ q j) (hk28 : ∀ (x1 x2 x3 x4 x5 x6 : Int) (σ : mMem), k28 x1 x2 x3 x4 x5 x6 σ = some (r, σ') → ∀ q j, ¬ T_X9_mostLeft  q j → σ' q j = σ q j) {x1 x2 x3 x4 x6 t0 t1 : Int} {σ : mMem} (hf : g_X9_mostLeft_b90 F k5 k28 x1 x2 x3 x4 x6 t0 t1 σ = some (r, σ')) : ∀ q j, ¬ T_X9_mostLeft  q j → σ' q j = σ q j := by
  unfold g_X9_mostLeft_b90 at hf
  have hs : ∀ q j, ¬ T_X9_mostLeft  q j → σ q j = σ q j := fun _ _ _ => rfl
  refine f_let hf (fun y505 hf => ?_)
  exact fun q j hq => (hk28 _ _ _ _ _ _ _ hf q j hq).trans (hs q j hq)
theorem f_X9_mostLeft_b89 {F : Nat}  {r : Int} {σ' : mMem} {k5 : Int → Int → Int → Int → mMem → mRs} {k28 : Int → Int → Int → Int → Int → Int → mMem → mRs} (hk5 : ∀ (x1 x2 x3 x4 : Int) (σ : mMem), k5 x1 x2 x3 x4 σ = some (r, σ') → ∀ q j, ¬ T_X9_mostLeft  q j → σ' q j = σ q j) (hk28 : ∀ (x1 x2 x3 x4 x5 x6 : Int) (σ : mMem), k28 x1 x2 x3 x4 x5 x6 σ = some (r, σ') → ∀ q j, ¬ T_X9_mostLeft  q j → σ' q j = σ q j) {x1 x2 x3 x4 x6 t0 : Int} {σ : mMem} (hf : g_X9_mostLeft_b89 F k5 k28 x1 x2 x3 x4 x6 t0 σ = some (r, σ')) : ∀ q j, ¬ T_X9_mostLeft  q j → σ' q j = σ q j := by
  unfold g_X9_mostLeft_b89 at hf
  have hs : ∀ q j, ¬ T_X9_mostLeft  q j → σ q j = σ q j := fun _ _ _ => rfl
  exact fun q j hq => (f_X9_mostLeft_b90 hk5 hk28 hf q j hq).trans (hs q j hq)
theorem f_X9_mostLeft_b55 {F : Nat}  {r : Int} {σ' : mMem} {k5 : Int → Int → Int → Int → mMem → mRs} {k28 : Int → Int → Int → Int → Int → Int → mMem → mRs} (hk5 : ∀ (x1 x2 x3 x4 : Int) (σ : mMem), k5 x1 x2 x3 x4 σ = some (r, σ') → ∀ q j, ¬ T_X9_mostLeft  q j → σ' q j = σ q j) (hk28 : ∀ (x1 x2 x3 x4 x5 x6 : Int) (σ : mMem), k28 x1 x2 x3 x4 x5 x6 σ = some (r, σ') → ∀ q j, ¬ T_X9_mostLeft  q j → σ' q j = σ q j) {x1 x2 x3 x4 x5 x6 t0 : Int} {σ : mMem} (hf : g_X9_mostLeft_b55 F k5 k28 x1 x2 x3 x4 x5 x6 t0 σ = some (r, σ')) : ∀ q j, ¬ T_X9_mostLeft  q j → σ' q j = σ q j := by
  unfold g_X9_mostLeft_b55 at hf
  have hs : ∀ q j, ¬ T_X9_mostLeft  q j → σ q j = σ q j := fun _ _ _ => rfl
  refine f_ite hf (fun hf => ?_) (fun hf => ?_)
  · exact fun q j hq => (f_X9_mostLeft_b89 hk5 hk28 hf q j hq).trans (hs q j hq)
  · refine f_ga hf (fun hj403 hf => ?_)
    refine f_gd hf (fun hf => ?_)
    refine f_ga hf (fun hj404 hf => ?_)
    refine f_gd hf (fun hf => ?_)
    refine f_ite hf (fun hf => ?_) (fun hf => ?_)
    · exact fun q j hq => (f_X9_mostLeft_b89 hk5 hk28 hf q j hq).trans (hs q j hq)
    · exact fun q j hq => (f_X9_mostLeft_b90 hk5 hk28 hf q j hq).trans (hs q j hq)
theorem f_X9_mostLeft_h28 {F : Nat}  {r : Int} {σ' : mMem} {k5 : Int → Int → Int → Int → mMem → mRs} (hk5 : ∀ (x1 x2 x3 x4 : Int) (σ : mMem), k5 x1 x2 x3 x4 σ = some (r, σ') → ∀ q j, ¬ T_X9_mostLeft  q j → σ' q j = σ q j) (n : Nat) : ∀ {x1 x2 x3 x4 x5 x6 : Int} {σ : mMem} (_ : g_X9_mostLeft_h28 F k5 n x1 x2 x3 x4 x5 x6 σ = some (r, σ')), ∀ q j, ¬ T_X9_mostLeft  q j → σ' q j = σ q j := by
  induction n with
  | zero =>
    intro x1 x2 x3 x4 x5 x6 σ hf
    unfold g_X9_mostLeft_h28 at hf
    cases hf
  | succ n ih =>
    have hk28 : ∀ (x1 x2 x3 x4 x5 x6 : Int) (σ : mMem), g_X9_mostLeft_h28 F k5 n x1 x2 x3 x4 x5 x6 σ = some (r, σ') → ∀ q j, ¬ T_X9_mostLeft  q j → σ' q j = σ q j := fun x1 x2 x3 x4 x5 x6 σ hf => ih hf
    intro x1 x2 x3 x4 x5 x6 σ hf
    unfold g_X9_mostLeft_h28 at hf
    have hs : ∀ q j, ¬ T_X9_mostLeft  q j → σ q j = σ q j := fun _ _ _ => rfl
    refine f_ite hf (fun hf => ?_) (fun hf => ?_)
    · refine f_mob hf (fun r301 σ302 h1 hf => ?_)
      have hs := fun q j hq => (f_J9_max_7cf53 h1 q j (by unfold T_J9_max_7cf53; exact id)).trans (hs q j hq)
      exact fun q j hq => (hk5 _ _ _ _ _ hf q j hq).trans (hs q j hq)
    · refine f_ite hf (fun hf => ?_) (fun hf => ?_)
      · exact fun q j hq => (f_X9_mostLeft_b55 hk5 hk28 hf q j hq).trans (hs q j hq)
      · exact fun q j hq => (f_X9_mostLeft_b55 hk5 hk28 hf q j hq).trans (hs q j hq)
theorem f_X9_mostLeft_h5 {F : Nat}  {r : Int} {σ' : mMem}   (n : Nat) : ∀ {x1 x2 x3 x4 : Int} {σ : mMem} (_ : g_X9_mostLeft_h5 F n x1 x2 x3 x4 σ = some (r, σ')), ∀ q j, ¬ T_X9_mostLeft  q j → σ' q j = σ q j := by
  induction n with
  | zero =>
    intro x1 x2 x3 x4 σ hf
    unfold g_X9_mostLeft_h5 at hf
    cases hf
  | succ n ih =>
    have hk5 : ∀ (x1 x2 x3 x4 : Int) (σ : mMem), g_X9_mostLeft_h5 F n x1 x2 x3 x4 σ = some (r, σ') → ∀ q j, ¬ T_X9_mostLeft  q j → σ' q j = σ q j := fun x1 x2 x3 x4 σ hf => ih hf
    intro x1 x2 x3 x4 σ hf
    unfold g_X9_mostLeft_h5 at hf
    have hs : ∀ q j, ¬ T_X9_mostLeft  q j → σ q j = σ q j := fun _ _ _ => rfl
    refine f_ite hf (fun hf => ?_) (fun hf => ?_)
    · exact fun q j hq => (f_X9_mostLeft_b112 hf q j hq).trans (hs q j hq)
    · refine f_ite hf (fun hf => ?_) (fun hf => ?_)
      · exact fun q j hq => (f_X9_mostLeft_b112 hf q j hq).trans (hs q j hq)
      · refine f_ite hf (fun hf => ?_) (fun hf => ?_)
        · exact fun q j hq => (f_X9_mostLeft_b112 hf q j hq).trans (hs q j hq)
        · exact fun q j hq => (f_X9_mostLeft_h28 hk5 _ hf q j hq).trans (hs q j hq)
theorem f_X9_mostLeft {F : Nat}  {r : Int} {σ' : mMem} {x1 x2 : Int} {σ : mMem} (hf : g_X9_mostLeft F x1 x2 σ = some (r, σ')) : ∀ q j, ¬ T_X9_mostLeft  q j → σ' q j = σ q j := by
  unfold g_X9_mostLeft at hf
  have hs : ∀ q j, ¬ T_X9_mostLeft  q j → σ q j = σ q j := fun _ _ _ => rfl
  exact fun q j hq => (f_X9_mostLeft_h5 _ hf q j hq).trans (hs q j hq)
def T_X9_tellingSteps (w1 : Nat) (q j : Nat) : Prop := q = 38 ∨ q = 39 ∨ q = 40 ∨ q = 41 ∨ q = 42 ∨ q = 43 ∨ q = 44 ∨ q = 45 ∨ q = 46 ∨ q = 47 ∨ (q = 48 ∧ (j = 3 ∨ j = 4 ∨ j = 5 ∨ j = 6 ∨ j = 7)) ∨ q = 49 ∨ q = 50 ∨ q = 52 ∨ q = 53
theorem f_X9_tellingSteps_b70 {F : Nat} {w1 : Nat} {r : Int} {σ' : mMem}   {x4 : Int} {σ : mMem} (hf : g_X9_tellingSteps_b70 F w1 x4 σ = some (r, σ')) : ∀ q j, ¬ T_X9_tellingSteps w1 q j → σ' q j = σ q j := by
  unfold g_X9_tellingSteps_b70 at hf
  have hs : ∀ q j, ¬ T_X9_tellingSteps w1 q j → σ q j = σ q j := fun _ _ _ => rfl
  cases hf
  exact hs
theorem f_X9_tellingSteps_b64 {F : Nat} {w1 : Nat} {r : Int} {σ' : mMem} {k29 : Int → Int → Int → Int → Int → mMem → mRs} (hk29 : ∀ (x3 x4 x5 x6 x7 : Int) (σ : mMem), k29 x3 x4 x5 x6 x7 σ = some (r, σ') → ∀ q j, ¬ T_X9_tellingSteps w1 q j → σ' q j = σ q j) {x3 x4 x5 x6 x7 : Int} {σ : mMem} (hf : g_X9_tellingSteps_b64 F w1 k29 x3 x4 x5 x6 x7 σ = some (r, σ')) : ∀ q j, ¬ T_X9_tellingSteps w1 q j → σ' q j = σ q j := by
  unfold g_X9_tellingSteps_b64 at hf
  have hs : ∀ q j, ¬ T_X9_tellingSteps w1 q j → σ q j = σ q j := fun _ _ _ => rfl
  exact fun q j hq => (hk29 _ _ _ _ _ _ hf q j hq).trans (hs q j hq)
theorem f_X9_tellingSteps_h29 {F : Nat} {w1 : Nat} {r : Int} {σ' : mMem}   (n : Nat) : ∀ {x3 x4 x5 x6 x7 : Int} {σ : mMem} (_ : g_X9_tellingSteps_h29 F w1 n x3 x4 x5 x6 x7 σ = some (r, σ')), ∀ q j, ¬ T_X9_tellingSteps w1 q j → σ' q j = σ q j := by
  induction n with
  | zero =>
    intro x3 x4 x5 x6 x7 σ hf
    unfold g_X9_tellingSteps_h29 at hf
    cases hf
  | succ n ih =>
    have hk29 : ∀ (x3 x4 x5 x6 x7 : Int) (σ : mMem), g_X9_tellingSteps_h29 F w1 n x3 x4 x5 x6 x7 σ = some (r, σ') → ∀ q j, ¬ T_X9_tellingSteps w1 q j → σ' q j = σ q j := fun x3 x4 x5 x6 x7 σ hf => ih hf
    intro x3 x4 x5 x6 x7 σ hf
    unfold g_X9_tellingSteps_h29 at hf
    have hs : ∀ q j, ¬ T_X9_tellingSteps w1 q j → σ q j = σ q j := fun _ _ _ => rfl
    refine f_ite hf (fun hf => ?_) (fun hf => ?_)
    · exact fun q j hq => (f_X9_tellingSteps_b70 hf q j hq).trans (hs q j hq)
    · refine f_ite hf (fun hf => ?_) (fun hf => ?_)
      · exact fun q j hq => (f_X9_tellingSteps_b70 hf q j hq).trans (hs q j hq)
      · refine f_mob hf (fun r107 σ108 h1 hf => ?_)
        have hs := fun q j hq => (f_X9_mostLeft h1 q j (by unfold T_X9_mostLeft; exact id)).trans (hs q j hq)
        refine f_ite hf (fun hf => ?_) (fun hf => ?_)
        · exact fun q j hq => (f_X9_tellingSteps_b64 hk29 hf q j hq).trans (hs q j hq)
        · exact fun q j hq => (f_X9_tellingSteps_b64 hk29 hf q j hq).trans (hs q j hq)
theorem f_X9_tellingSteps {F : Nat} {w1 : Nat} {r : Int} {σ' : mMem} {x2 : Int} {σ : mMem} (hf : g_X9_tellingSteps F w1 x2 σ = some (r, σ')) : ∀ q j, ¬ T_X9_tellingSteps w1 q j → σ' q j = σ q j := by
  unfold g_X9_tellingSteps at hf
  have hs : ∀ q j, ¬ T_X9_tellingSteps w1 q j → σ q j = σ q j := fun _ _ _ => rfl
  refine f_mob hf (fun r1 σ2 h1 hf => ?_)
  have hs := fun q j hq => (f_X9_followAll h1 q j (by unfold T_X9_tellingSteps at hq; unfold T_X9_followAll; omega)).trans (hs q j hq)
  refine f_mob hf (fun r3 σ4 h1 hf => ?_)
  have hs := fun q j hq => (f_X9_bitsLeft h1 q j (by unfold T_X9_bitsLeft; exact id)).trans (hs q j hq)
  refine f_mob hf (fun r5 σ6 h1 hf => ?_)
  have hs := fun q j hq => (f_X10_comingSteps h1 q j (by unfold T_X10_comingSteps; exact id)).trans (hs q j hq)
  exact fun q j hq => (f_X9_tellingSteps_h29 _ hf q j hq).trans (hs q j hq)
def T_X10_begin (o : Nat) (p1 : Nat) (q j : Nat) : Prop := (q = o ∧ (j = 3 ∨ j = 4 ∨ j = 5)) ∨ q = (o + 1)
theorem f_X10_begin_h35 {F : Nat} {o : Nat} {p1 : Nat} {r : Int} {σ' : mMem}   (n : Nat) : ∀ {x2 : Int} {σ : mMem} (_ : g_X10_begin_h35 F o p1 n x2 σ = some (r, σ')), ∀ q j, ¬ T_X10_begin o p1 q j → σ' q j = σ q j := by
  induction n with
  | zero =>
    intro x2 σ hf
    unfold g_X10_begin_h35 at hf
    cases hf
  | succ n ih =>
    have hk35 : ∀ (x2 : Int) (σ : mMem), g_X10_begin_h35 F o p1 n x2 σ = some (r, σ') → ∀ q j, ¬ T_X10_begin o p1 q j → σ' q j = σ q j := fun x2 σ hf => ih hf
    intro x2 σ hf
    unfold g_X10_begin_h35 at hf
    have hs : ∀ q j, ¬ T_X10_begin o p1 q j → σ q j = σ q j := fun _ _ _ => rfl
    refine f_ite hf (fun hf => ?_) (fun hf => ?_)
    · cases hf
      exact hs
    · refine f_mob hf (fun r105 σ106 h1 hf => ?_)
      have hs := fun q j hq => (f_X10_set h1 q j (by unfold T_X10_begin at hq; unfold T_X10_set; omega)).trans (hs q j hq)
      exact fun q j hq => (hk35 _ _ hf q j hq).trans (hs q j hq)
theorem f_X10_begin {F : Nat} {o : Nat} {p1 : Nat} {r : Int} {σ' : mMem} {σ : mMem} (hf : g_X10_begin F o p1 σ = some (r, σ')) : ∀ q j, ¬ T_X10_begin o p1 q j → σ' q j = σ q j := by
  unfold g_X10_begin at hf
  have hs : ∀ q j, ¬ T_X10_begin o p1 q j → σ q j = σ q j := fun _ _ _ => rfl
  refine f_mem hf (fun q j hq => (mup_ne (by unfold T_X10_begin at hq; omega)).trans (hs q j hq)) (fun σ1 hs hf => ?_)
  refine f_mem hf (fun q j hq => (mup_ne (by unfold T_X10_begin at hq; omega)).trans (hs q j hq)) (fun σ2 hs hf => ?_)
  refine f_mem hf (fun q j hq => (mup_ne (by unfold T_X10_begin at hq; omega)).trans (hs q j hq)) (fun σ3 hs hf => ?_)
  refine f_gd hf (fun hf => ?_)
  refine f_mem hf (fun q j hq => (mupo_ne (by unfold T_X10_begin at hq; omega)).trans (hs q j hq)) (fun σ4 hs hf => ?_)
  exact fun q j hq => (f_X10_begin_h35 _ hf q j hq).trans (hs q j hq)
def T_X10_mayPass (o : Nat) (q j : Nat) : Prop := False
theorem f_X10_mayPass_b19 {F : Nat} {o : Nat} {r : Int} {σ' : mMem}   {t0 : Int} {σ : mMem} (hf : g_X10_mayPass_b19 F o t0 σ = some (r, σ')) : ∀ q j, ¬ T_X10_mayPass o q j → σ' q j = σ q j := by
  unfold g_X10_mayPass_b19 at hf
  have hs : ∀ q j, ¬ T_X10_mayPass o q j → σ q j = σ q j := fun _ _ _ => rfl
  refine f_gd hf (fun hf => ?_)
  cases hf
  exact hs
theorem f_X10_mayPass_b18 {F : Nat} {o : Nat} {r : Int} {σ' : mMem}   {σ : mMem} (hf : g_X10_mayPass_b18 F o  σ = some (r, σ')) : ∀ q j, ¬ T_X10_mayPass o q j → σ' q j = σ q j := by
  unfold g_X10_mayPass_b18 at hf
  have hs : ∀ q j, ¬ T_X10_mayPass o q j → σ q j = σ q j := fun _ _ _ => rfl
  exact fun q j hq => (f_X10_mayPass_b19 hf q j hq).trans (hs q j hq)
theorem f_X10_mayPass {F : Nat} {o : Nat} {r : Int} {σ' : mMem} {x1 x2 x3 : Int} {σ : mMem} (hf : g_X10_mayPass F o x1 x2 x3 σ = some (r, σ')) : ∀ q j, ¬ T_X10_mayPass o q j → σ' q j = σ q j := by
  unfold g_X10_mayPass at hf
  have hs : ∀ q j, ¬ T_X10_mayPass o q j → σ q j = σ q j := fun _ _ _ => rfl
  refine f_ite hf (fun hf => ?_) (fun hf => ?_)
  · exact fun q j hq => (f_X10_mayPass_b18 hf q j hq).trans (hs q j hq)
  · refine f_mob hf (fun r1 σ2 h1 hf => ?_)
    have hs := fun q j hq => (f_X10_comingSteps h1 q j (by unfold T_X10_comingSteps; exact id)).trans (hs q j hq)
    refine f_ite hf (fun hf => ?_) (fun hf => ?_)
    · exact fun q j hq => (f_X10_mayPass_b18 hf q j hq).trans (hs q j hq)
    · exact fun q j hq => (f_X10_mayPass_b19 hf q j hq).trans (hs q j hq)
def T_X10_blackCells (o : Nat) (q j : Nat) : Prop := False
theorem f_X10_blackCells_b43 {F : Nat} {o : Nat} {r : Int} {σ' : mMem} {k4 : Int → Int → mMem → mRs} {k17 : Int → Int → Int → mMem → mRs} (hk4 : ∀ (x1 x2 : Int) (σ : mMem), k4 x1 x2 σ = some (r, σ') → ∀ q j, ¬ T_X10_blackCells o q j → σ' q j = σ q j) (hk17 : ∀ (x1 x2 x3 : Int) (σ : mMem), k17 x1 x2 x3 σ = some (r, σ') → ∀ q j, ¬ T_X10_blackCells o q j → σ' q j = σ q j) {x2 x3 t0 t1 : Int} {σ : mMem} (hf : g_X10_blackCells_b43 F o k4 k17 x2 x3 t0 t1 σ = some (r, σ')) : ∀ q j, ¬ T_X10_blackCells o q j → σ' q j = σ q j := by
  unfold g_X10_blackCells_b43 at hf
  have hs : ∀ q j, ¬ T_X10_blackCells o q j → σ q j = σ q j := fun _ _ _ => rfl
  refine f_let hf (fun y305 hf => ?_)
  exact fun q j hq => (hk17 _ _ _ _ hf q j hq).trans (hs q j hq)
theorem f_X10_blackCells_h17 {F : Nat} {o : Nat} {r : Int} {σ' : mMem} {k4 : Int → Int → mMem → mRs} (hk4 : ∀ (x1 x2 : Int) (σ : mMem), k4 x1 x2 σ = some (r, σ') → ∀ q j, ¬ T_X10_blackCells o q j → σ' q j = σ q j) (n : Nat) : ∀ {x1 x2 x3 : Int} {σ : mMem} (_ : g_X10_blackCells_h17 F o k4 n x1 x2 x3 σ = some (r, σ')), ∀ q j, ¬ T_X10_blackCells o q j → σ' q j = σ q j := by
  induction n with
  | zero =>
    intro x1 x2 x3 σ hf
    unfold g_X10_blackCells_h17 at hf
    cases hf
  | succ n ih =>
    have hk17 : ∀ (x1 x2 x3 : Int) (σ : mMem), g_X10_blackCells_h17 F o k4 n x1 x2 x3 σ = some (r, σ') → ∀ q j, ¬ T_X10_blackCells o q j → σ' q j = σ q j := fun x1 x2 x3 σ hf => ih hf
    intro x1 x2 x3 σ hf
    unfold g_X10_blackCells_h17 at hf
    have hs : ∀ q j, ¬ T_X10_blackCells o q j → σ q j = σ q j := fun _ _ _ => rfl
    refine f_gp hf (fun hg202 hf => ?_)
    refine f_ite hf (fun hf => ?_) (fun hf => ?_)
    · exact fun q j hq => (hk4 _ _ _ hf q j hq).trans (hs q j hq)
    · refine f_mob hf (fun r203 σ204 h1 hf => ?_)
      have hs := fun q j hq => (f_X10_isBlack h1 q j (by unfold T_X10_isBlack; exact id)).trans (hs q j hq)
      refine f_ite hf (fun hf => ?_) (fun hf => ?_)
      · exact fun q j hq => (f_X10_blackCells_b43 hk4 hk17 hf q j hq).trans (hs q j hq)
      · exact fun q j hq => (f_X10_blackCells_b43 hk4 hk17 hf q j hq).trans (hs q j hq)
theorem f_X10_blackCells_h4 {F : Nat} {o : Nat} {r : Int} {σ' : mMem}   (n : Nat) : ∀ {x1 x2 : Int} {σ : mMem} (_ : g_X10_blackCells_h4 F o n x1 x2 σ = some (r, σ')), ∀ q j, ¬ T_X10_blackCells o q j → σ' q j = σ q j := by
  induction n with
  | zero =>
    intro x1 x2 σ hf
    unfold g_X10_blackCells_h4 at hf
    cases hf
  | succ n ih =>
    have hk4 : ∀ (x1 x2 : Int) (σ : mMem), g_X10_blackCells_h4 F o n x1 x2 σ = some (r, σ') → ∀ q j, ¬ T_X10_blackCells o q j → σ' q j = σ q j := fun x1 x2 σ hf => ih hf
    intro x1 x2 σ hf
    unfold g_X10_blackCells_h4 at hf
    have hs : ∀ q j, ¬ T_X10_blackCells o q j → σ q j = σ q j := fun _ _ _ => rfl
    refine f_gp hf (fun hg101 hf => ?_)
    refine f_ite hf (fun hf => ?_) (fun hf => ?_)
    · cases hf
      exact hs
    · exact fun q j hq => (f_X10_blackCells_h17 hk4 _ hf q j hq).trans (hs q j hq)
theorem f_X10_blackCells {F : Nat} {o : Nat} {r : Int} {σ' : mMem} {σ : mMem} (hf : g_X10_blackCells F o σ = some (r, σ')) : ∀ q j, ¬ T_X10_blackCells o q j → σ' q j = σ q j := by
  unfold g_X10_blackCells at hf
  have hs : ∀ q j, ¬ T_X10_blackCells o q j → σ q j = σ q j := fun _ _ _ => rfl
  exact fun q j hq => (f_X10_blackCells_h4 _ hf q j hq).trans (hs q j hq)
def T_X10_emptyBoxes (o : Nat) (q j : Nat) : Prop := False
theorem f_X10_emptyBoxes_b30 {F : Nat} {o : Nat} {r : Int} {σ' : mMem} {k4 : Int → Int → mMem → mRs} (hk4 : ∀ (x1 x2 : Int) (σ : mMem), k4 x1 x2 σ = some (r, σ') → ∀ q j, ¬ T_X10_emptyBoxes o q j → σ' q j = σ q j) {x2 t0 t1 : Int} {σ : mMem} (hf : g_X10_emptyBoxes_b30 F o k4 x2 t0 t1 σ = some (r, σ')) : ∀ q j, ¬ T_X10_emptyBoxes o q j → σ' q j = σ q j := by
  unfold g_X10_emptyBoxes_b30 at hf
  have hs : ∀ q j, ¬ T_X10_emptyBoxes o q j → σ q j = σ q j := fun _ _ _ => rfl
  refine f_let hf (fun y204 hf => ?_)
  exact fun q j hq => (hk4 _ _ _ hf q j hq).trans (hs q j hq)
theorem f_X10_emptyBoxes_h4 {F : Nat} {o : Nat} {r : Int} {σ' : mMem}   (n : Nat) : ∀ {x1 x2 : Int} {σ : mMem} (_ : g_X10_emptyBoxes_h4 F o n x1 x2 σ = some (r, σ')), ∀ q j, ¬ T_X10_emptyBoxes o q j → σ' q j = σ q j := by
  induction n with
  | zero =>
    intro x1 x2 σ hf
    unfold g_X10_emptyBoxes_h4 at hf
    cases hf
  | succ n ih =>
    have hk4 : ∀ (x1 x2 : Int) (σ : mMem), g_X10_emptyBoxes_h4 F o n x1 x2 σ = some (r, σ') → ∀ q j, ¬ T_X10_emptyBoxes o q j → σ' q j = σ q j := fun x1 x2 σ hf => ih hf
    intro x1 x2 σ hf
    unfold g_X10_emptyBoxes_h4 at hf
    have hs : ∀ q j, ¬ T_X10_emptyBoxes o q j → σ q j = σ q j := fun _ _ _ => rfl
    refine f_gp hf (fun hg101 hf => ?_)
    refine f_ite hf (fun hf => ?_) (fun hf => ?_)
    · cases hf
      exact hs
    · refine f_mob hf (fun r102 σ103 h1 hf => ?_)
      have hs := fun q j hq => (f_X10_of h1 q j (by unfold T_X10_of; exact id)).trans (hs q j hq)
      refine f_ite hf (fun hf => ?_) (fun hf => ?_)
      · exact fun q j hq => (f_X10_emptyBoxes_b30 hk4 hf q j hq).trans (hs q j hq)
      · exact fun q j hq => (f_X10_emptyBoxes_b30 hk4 hf q j hq).trans (hs q j hq)
theorem f_X10_emptyBoxes {F : Nat} {o : Nat} {r : Int} {σ' : mMem} {σ : mMem} (hf : g_X10_emptyBoxes F o σ = some (r, σ')) : ∀ q j, ¬ T_X10_emptyBoxes o q j → σ' q j = σ q j := by
  unfold g_X10_emptyBoxes at hf
  have hs : ∀ q j, ¬ T_X10_emptyBoxes o q j → σ q j = σ q j := fun _ _ _ => rfl
  exact fun q j hq => (f_X10_emptyBoxes_h4 _ hf q j hq).trans (hs q j hq)
def T_X11_refuse  (q j : Nat) : Prop := q = 85
theorem f_X11_refuse_b23 {F : Nat}  {r : Int} {σ' : mMem}   {σ : mMem} (hf : g_X11_refuse_b23 F  σ = some (r, σ')) : ∀ q j, ¬ T_X11_refuse  q j → σ' q j = σ q j := by
  unfold g_X11_refuse_b23 at hf
  have hs : ∀ q j, ¬ T_X11_refuse  q j → σ q j = σ q j := fun _ _ _ => rfl
  cases hf
  exact hs
theorem f_X11_refuse {F : Nat}  {r : Int} {σ' : mMem} {x1 : Int} {σ : mMem} (hf : g_X11_refuse F x1 σ = some (r, σ')) : ∀ q j, ¬ T_X11_refuse  q j → σ' q j = σ q j := by
  unfold g_X11_refuse at hf
  have hs : ∀ q j, ¬ T_X11_refuse  q j → σ q j = σ q j := fun _ _ _ => rfl
  refine f_ite hf (fun hf => ?_) (fun hf => ?_)
  · exact fun q j hq => (f_X11_refuse_b23 hf q j hq).trans (hs q j hq)
  · refine f_ite hf (fun hf => ?_) (fun hf => ?_)
    · exact fun q j hq => (f_X11_refuse_b23 hf q j hq).trans (hs q j hq)
    · refine f_gd hf (fun hf => ?_)
      refine f_gd hf (fun hf => ?_)
      refine f_mem hf (fun q j hq => (mup_ne (by unfold T_X11_refuse at hq; omega)).trans (hs q j hq)) (fun σ1 hs hf => ?_)
      exact fun q j hq => (f_X11_refuse_b23 hf q j hq).trans (hs q j hq)
def T_X11_feed  (q j : Nat) : Prop := (q = 1 ∧ (j = 1)) ∨ q = 2 ∨ q = 85
theorem f_X11_feed {F : Nat}  {r : Int} {σ' : mMem} {x1 x2 x3 x4 x5 : Int} {σ : mMem} (hf : g_X11_feed F x1 x2 x3 x4 x5 σ = some (r, σ')) : ∀ q j, ¬ T_X11_feed  q j → σ' q j = σ q j := by
  unfold g_X11_feed at hf
  have hs : ∀ q j, ¬ T_X11_feed  q j → σ q j = σ q j := fun _ _ _ => rfl
  refine f_mob hf (fun r1 σ2 h1 hf => ?_)
  have hs := fun q j hq => (f_X7_hasSpaceFor h1 q j (by unfold T_X7_hasSpaceFor; exact id)).trans (hs q j hq)
  refine f_ite hf (fun hf => ?_) (fun hf => ?_)
  · refine f_mob hf (fun r3 σ4 h1 hf => ?_)
    have hs := fun q j hq => (f_X7_add h1 q j (by unfold T_X11_feed at hq; unfold T_X7_add; omega)).trans (hs q j hq)
    refine f_mob hf (fun r5 σ6 h1 hf => ?_)
    have hs := fun q j hq => (f_X7_add h1 q j (by unfold T_X11_feed at hq; unfold T_X7_add; omega)).trans (hs q j hq)
    refine f_mob hf (fun r7 σ8 h1 hf => ?_)
    have hs := fun q j hq => (f_X7_add h1 q j (by unfold T_X11_feed at hq; unfold T_X7_add; omega)).trans (hs q j hq)
    refine f_mob hf (fun r9 σ10 h1 hf => ?_)
    have hs := fun q j hq => (f_X7_add h1 q j (by unfold T_X11_feed at hq; unfold T_X7_add; omega)).trans (hs q j hq)
    refine f_mob hf (fun r11 σ12 h1 hf => ?_)
    have hs := fun q j hq => (f_X7_add h1 q j (by unfold T_X11_feed at hq; unfold T_X7_add; omega)).trans (hs q j hq)
    cases hf
    exact hs
  · refine f_mob hf (fun r13 σ14 h1 hf => ?_)
    have hs := fun q j hq => (f_X11_refuse h1 q j (by unfold T_X11_feed at hq; unfold T_X11_refuse; omega)).trans (hs q j hq)
    cases hf
    exact hs
def T_X11_end  (q j : Nat) : Prop := (q = 1 ∧ (j = 1)) ∨ q = 85
theorem f_X11_end_b15 {F : Nat}  {r : Int} {σ' : mMem}   {σ : mMem} (hf : g_X11_end_b15 F  σ = some (r, σ')) : ∀ q j, ¬ T_X11_end  q j → σ' q j = σ q j := by
  unfold g_X11_end_b15 at hf
  have hs : ∀ q j, ¬ T_X11_end  q j → σ q j = σ q j := fun _ _ _ => rfl
  refine f_mob hf (fun r102 σ103 h1 hf => ?_)
  have hs := fun q j hq => (f_X11_refuse h1 q j (by unfold T_X11_end at hq; unfold T_X11_refuse; omega)).trans (hs q j hq)
  refine f_gd hf (fun hf => ?_)
  cases hf
  exact hs
theorem f_X11_end {F : Nat}  {r : Int} {σ' : mMem} {x1 : Int} {σ : mMem} (hf : g_X11_end F x1 σ = some (r, σ')) : ∀ q j, ¬ T_X11_end  q j → σ' q j = σ q j := by
  unfold g_X11_end at hf
  have hs : ∀ q j, ¬ T_X11_end  q j → σ q j = σ q j := fun _ _ _ => rfl
  refine f_ite hf (fun hf => ?_) (fun hf => ?_)
  · exact fun q j hq => (f_X11_end_b15 hf q j hq).trans (hs q j hq)
  · refine f_ite hf (fun hf => ?_) (fun hf => ?_)
    · refine f_mem hf (fun q j hq => (mup_ne (by unfold T_X11_end at hq; omega)).trans (hs q j hq)) (fun σ1 hs hf => ?_)
      refine f_gd hf (fun hf => ?_)
      cases hf
      exact hs
    · exact fun q j hq => (f_X11_end_b15 hf q j hq).trans (hs q j hq)
def T_X11_kitchen  (q j : Nat) : Prop := (q = 0 ∧ (j = 8 ∨ j = 9 ∨ j = 10 ∨ j = 11)) ∨ (q = 1 ∧ (j = 1)) ∨ (q = 3 ∧ (j = 4 ∨ j = 5 ∨ j = 6 ∨ j = 7 ∨ j = 8 ∨ j = 9 ∨ j = 10 ∨ j = 11 ∨ j = 12 ∨ j = 13 ∨ j = 14)) ∨ q = 4 ∨ q = 5 ∨ q = 6 ∨ q = 7 ∨ (q = 8 ∧ (j = 4 ∨ j = 5 ∨ j = 6 ∨ j = 7 ∨ j = 8 ∨ j = 9 ∨ j = 10 ∨ j = 11 ∨ j = 12 ∨ j = 13 ∨ j = 14)) ∨ q = 9 ∨ q = 10 ∨ q = 11 ∨ q = 12 ∨ (q = 13 ∧ (j = 2)) ∨ (q = 14 ∧ (j = 5 ∨ j = 6 ∨ j = 7 ∨ j = 8 ∨ j = 9 ∨ j = 10 ∨ j = 11)) ∨ q = 16 ∨ q = 17 ∨ q = 18 ∨ (q = 19 ∧ (j = 1 ∨ j = 2)) ∨ (q = 20 ∧ (j = 3 ∨ j = 4 ∨ j = 5)) ∨ q = 21 ∨ (q = 35 ∧ (j = 3)) ∨ (q = 54 ∧ (j = 2 ∨ j = 3 ∨ j = 4)) ∨ q = 85
theorem f_X11_kitchen {F : Nat}  {r : Int} {σ' : mMem} {σ : mMem} (hf : g_X11_kitchen F σ = some (r, σ')) : ∀ q j, ¬ T_X11_kitchen  q j → σ' q j = σ q j := by
  unfold g_X11_kitchen at hf
  have hs : ∀ q j, ¬ T_X11_kitchen  q j → σ q j = σ q j := fun _ _ _ => rfl
  refine f_gp hf (fun hg1 hf => ?_)
  refine f_mob hf (fun r2 σ3 h1 hf => ?_)
  have hs := fun q j hq => (f_X6_readInto h1 q j (by unfold T_X11_kitchen at hq; unfold T_X6_readInto; omega)).trans (hs q j hq)
  refine f_mem hf (fun q j hq => (mup_ne (by unfold T_X11_kitchen at hq; omega)).trans (hs q j hq)) (fun σ4 hs hf => ?_)
  refine f_mem hf (fun q j hq => (mup_ne (by unfold T_X11_kitchen at hq; omega)).trans (hs q j hq)) (fun σ5 hs hf => ?_)
  refine f_mem hf (fun q j hq => (mup_ne (by unfold T_X11_kitchen at hq; omega)).trans (hs q j hq)) (fun σ6 hs hf => ?_)
  refine f_ite hf (fun hf => ?_) (fun hf => ?_)
  · refine f_gp hf (fun hg7 hf => ?_)
    refine f_gp hf (fun hg8 hf => ?_)
    refine f_mem hf (fun q j hq => (mup_ne (by unfold T_X11_kitchen at hq; omega)).trans (hs q j hq)) (fun σ9 hs hf => ?_)
    refine f_mem hf (fun q j hq => (mup_ne (by unfold T_X11_kitchen at hq; omega)).trans (hs q j hq)) (fun σ10 hs hf => ?_)
    refine f_gp hf (fun hg11 hf => ?_)
    refine f_mob hf (fun r12 σ13 h1 hf => ?_)
    have hs := fun q j hq => (f_X10_begin h1 q j (by unfold T_X11_kitchen at hq; unfold T_X10_begin; omega)).trans (hs q j hq)
    refine f_mob hf (fun r14 σ15 h1 hf => ?_)
    have hs := fun q j hq => (f_X3_forget h1 q j (by unfold T_X11_kitchen at hq; unfold T_X3_forget; omega)).trans (hs q j hq)
    refine f_mob hf (fun r16 σ17 h1 hf => ?_)
    have hs := fun q j hq => (f_X9_forget h1 q j (by unfold T_X11_kitchen at hq; unfold T_X9_forget; omega)).trans (hs q j hq)
    cases hf
    exact hs
  · refine f_mob hf (fun r18 σ19 h1 hf => ?_)
    have hs := fun q j hq => (f_X11_refuse h1 q j (by unfold T_X11_kitchen at hq; unfold T_X11_refuse; omega)).trans (hs q j hq)
    cases hf
    exact hs
def T_X11_fault  (q j : Nat) : Prop := False
theorem f_X11_fault_b22 {F : Nat}  {r : Int} {σ' : mMem}   {t0 : Int} {σ : mMem} (hf : g_X11_fault_b22 F t0 σ = some (r, σ')) : ∀ q j, ¬ T_X11_fault  q j → σ' q j = σ q j := by
  unfold g_X11_fault_b22 at hf
  have hs : ∀ q j, ¬ T_X11_fault  q j → σ q j = σ q j := fun _ _ _ => rfl
  cases hf
  exact hs
theorem f_X11_fault {F : Nat}  {r : Int} {σ' : mMem} {x1 : Int} {σ : mMem} (hf : g_X11_fault F x1 σ = some (r, σ')) : ∀ q j, ¬ T_X11_fault  q j → σ' q j = σ q j := by
  unfold g_X11_fault at hf
  have hs : ∀ q j, ¬ T_X11_fault  q j → σ q j = σ q j := fun _ _ _ => rfl
  refine f_ite hf (fun hf => ?_) (fun hf => ?_)
  · refine f_ite hf (fun hf => ?_) (fun hf => ?_)
    · exact fun q j hq => (f_X11_fault_b22 hf q j hq).trans (hs q j hq)
    · exact fun q j hq => (f_X11_fault_b22 hf q j hq).trans (hs q j hq)
  · cases hf
    exact hs
def T_X11_has  (q j : Nat) : Prop := False
theorem f_X11_has {F : Nat}  {r : Int} {σ' : mMem} {x1 : Int} {σ : mMem} (hf : g_X11_has F x1 σ = some (r, σ')) : ∀ q j, ¬ T_X11_has  q j → σ' q j = σ q j := by
  unfold g_X11_has at hf
  have hs : ∀ q j, ¬ T_X11_has  q j → σ q j = σ q j := fun _ _ _ => rfl
  refine f_ite hf (fun hf => ?_) (fun hf => ?_)
  · refine f_gp hf (fun hg1 hf => ?_)
    cases hf
    exact hs
  refine f_ite hf (fun hf => ?_) (fun hf => ?_)
  · refine f_gp hf (fun hg2 hf => ?_)
    cases hf
    exact hs
  refine f_ite hf (fun hf => ?_) (fun hf => ?_)
  · refine f_gp hf (fun hg3 hf => ?_)
    cases hf
    exact hs
  refine f_ite hf (fun hf => ?_) (fun hf => ?_)
  · refine f_mob hf (fun r4 σ5 h1 hf => ?_)
    have hs := fun q j hq => (f_X10_blackCells h1 q j (by unfold T_X10_blackCells; exact id)).trans (hs q j hq)
    cases hf
    exact hs
  refine f_ite hf (fun hf => ?_) (fun hf => ?_)
  · cases hf
    exact hs
  refine f_ite hf (fun hf => ?_) (fun hf => ?_)
  · cases hf
    exact hs
  refine f_ite hf (fun hf => ?_) (fun hf => ?_)
  · refine f_mob hf (fun r6 σ7 h1 hf => ?_)
    have hs := fun q j hq => (f_X10_lostBoxes h1 q j (by unfold T_X10_lostBoxes; exact id)).trans (hs q j hq)
    cases hf
    exact hs
  refine f_ite hf (fun hf => ?_) (fun hf => ?_)
  · refine f_mob hf (fun r8 σ9 h1 hf => ?_)
    have hs := fun q j hq => (f_X10_emptyBoxes h1 q j (by unfold T_X10_emptyBoxes; exact id)).trans (hs q j hq)
    cases hf
    exact hs
  refine f_ite hf (fun hf => ?_) (fun hf => ?_)
  · refine f_mob hf (fun r10 σ11 h1 hf => ?_)
    have hs := fun q j hq => (f_X3_told h1 q j (by unfold T_X3_told; exact id)).trans (hs q j hq)
    cases hf
    exact hs
  refine f_ite hf (fun hf => ?_) (fun hf => ?_)
  · cases hf
    exact hs
  refine f_ite hf (fun hf => ?_) (fun hf => ?_)
  · cases hf
    exact hs
  cases hf
  exact hs
def T_X11_letter  (q j : Nat) : Prop := False
theorem f_X11_letter_b21 {F : Nat}  {r : Int} {σ' : mMem}   {σ : mMem} (hf : g_X11_letter_b21 F  σ = some (r, σ')) : ∀ q j, ¬ T_X11_letter  q j → σ' q j = σ q j := by
  unfold g_X11_letter_b21 at hf
  have hs : ∀ q j, ¬ T_X11_letter  q j → σ q j = σ q j := fun _ _ _ => rfl
  cases hf
  exact hs
theorem f_X11_letter {F : Nat}  {r : Int} {σ' : mMem} {x1 x2 : Int} {σ : mMem} (hf : g_X11_letter F x1 x2 σ = some (r, σ')) : ∀ q j, ¬ T_X11_letter  q j → σ' q j = σ q j := by
  unfold g_X11_letter at hf
  have hs : ∀ q j, ¬ T_X11_letter  q j → σ q j = σ q j := fun _ _ _ => rfl
  refine f_gp hf (fun hg1 hf => ?_)
  refine f_mob hf (fun r2 σ3 h1 hf => ?_)
  have hs := fun q j hq => (f_X5_hasBox h1 q j (by unfold T_X5_hasBox; exact id)).trans (hs q j hq)
  refine f_ite hf (fun hf => ?_) (fun hf => ?_)
  · exact fun q j hq => (f_X11_letter_b21 hf q j hq).trans (hs q j hq)
  · refine f_ite hf (fun hf => ?_) (fun hf => ?_)
    · exact fun q j hq => (f_X11_letter_b21 hf q j hq).trans (hs q j hq)
    · refine f_ite hf (fun hf => ?_) (fun hf => ?_)
      · refine f_gp hf (fun hg4 hf => ?_)
        refine f_gd hf (fun hf => ?_)
        refine f_mob hf (fun r5 σ6 h1 hf => ?_)
        have hs := fun q j hq => (f_X5_shiftOf h1 q j (by unfold T_X5_shiftOf; exact id)).trans (hs q j hq)
        cases hf
        exact hs
      · exact fun q j hq => (f_X11_letter_b21 hf q j hq).trans (hs q j hq)
def T_X11_cell  (q j : Nat) : Prop := False
theorem f_X11_cell_b67 {F : Nat}  {r : Int} {σ' : mMem}   {t0 : Int} {σ : mMem} (hf : g_X11_cell_b67 F t0 σ = some (r, σ')) : ∀ q j, ¬ T_X11_cell  q j → σ' q j = σ q j := by
  unfold g_X11_cell_b67 at hf
  have hs : ∀ q j, ¬ T_X11_cell  q j → σ q j = σ q j := fun _ _ _ => rfl
  cases hf
  exact hs
theorem f_X11_cell {F : Nat}  {r : Int} {σ' : mMem} {x1 x2 x3 : Int} {σ : mMem} (hf : g_X11_cell F x1 x2 x3 σ = some (r, σ')) : ∀ q j, ¬ T_X11_cell  q j → σ' q j = σ q j := by
  unfold g_X11_cell at hf
  have hs : ∀ q j, ¬ T_X11_cell  q j → σ q j = σ q j := fun _ _ _ => rfl
  refine f_gp hf (fun hg1 hf => ?_)
  refine f_mob hf (fun r2 σ3 h1 hf => ?_)
  have hs := fun q j hq => (f_X5_hasCell h1 q j (by unfold T_X5_hasCell; exact id)).trans (hs q j hq)
  refine f_ite hf (fun hf => ?_) (fun hf => ?_)
  · refine f_ite hf (fun hf => ?_) (fun hf => ?_)
    · refine f_gp hf (fun hg4 hf => ?_)
      refine f_mob hf (fun r5 σ6 h1 hf => ?_)
      have hs := fun q j hq => (f_X5_greyAt h1 q j (by unfold T_X5_greyAt; exact id)).trans (hs q j hq)
      cases hf
      exact hs
    refine f_ite hf (fun hf => ?_) (fun hf => ?_)
    · refine f_mob hf (fun r7 σ8 h1 hf => ?_)
      have hs := fun q j hq => (f_X10_isBlack h1 q j (by unfold T_X10_isBlack; exact id)).trans (hs q j hq)
      refine f_ite hf (fun hf => ?_) (fun hf => ?_)
      · exact fun q j hq => (f_X11_cell_b67 hf q j hq).trans (hs q j hq)
      · exact fun q j hq => (f_X11_cell_b67 hf q j hq).trans (hs q j hq)
    refine f_ite hf (fun hf => ?_) (fun hf => ?_)
    · refine f_mob hf (fun r9 σ10 h1 hf => ?_)
      have hs := fun q j hq => (f_X10_boxOn h1 q j (by unfold T_X10_boxOn; exact id)).trans (hs q j hq)
      cases hf
      exact hs
    cases hf
    exact hs
  · cases hf
    exact hs
def T_X11_box  (q j : Nat) : Prop := False
theorem f_X11_box_b21 {F : Nat}  {r : Int} {σ' : mMem}   {σ : mMem} (hf : g_X11_box_b21 F  σ = some (r, σ')) : ∀ q j, ¬ T_X11_box  q j → σ' q j = σ q j := by
  unfold g_X11_box_b21 at hf
  have hs : ∀ q j, ¬ T_X11_box  q j → σ q j = σ q j := fun _ _ _ => rfl
  cases hf
  exact hs
theorem f_X11_box {F : Nat}  {r : Int} {σ' : mMem} {x1 x2 : Int} {σ : mMem} (hf : g_X11_box F x1 x2 σ = some (r, σ')) : ∀ q j, ¬ T_X11_box  q j → σ' q j = σ q j := by
  unfold g_X11_box at hf
  have hs : ∀ q j, ¬ T_X11_box  q j → σ q j = σ q j := fun _ _ _ => rfl
  refine f_gp hf (fun hg1 hf => ?_)
  refine f_mob hf (fun r2 σ3 h1 hf => ?_)
  have hs := fun q j hq => (f_X5_hasBox h1 q j (by unfold T_X5_hasBox; exact id)).trans (hs q j hq)
  refine f_ite hf (fun hf => ?_) (fun hf => ?_)
  · exact fun q j hq => (f_X11_box_b21 hf q j hq).trans (hs q j hq)
  · refine f_ite hf (fun hf => ?_) (fun hf => ?_)
    · exact fun q j hq => (f_X11_box_b21 hf q j hq).trans (hs q j hq)
    · refine f_ite hf (fun hf => ?_) (fun hf => ?_)
      · refine f_mob hf (fun r4 σ5 h1 hf => ?_)
        have hs := fun q j hq => (f_X10_of h1 q j (by unfold T_X10_of; exact id)).trans (hs q j hq)
        cases hf
        exact hs
      · exact fun q j hq => (f_X11_box_b21 hf q j hq).trans (hs q j hq)
def T_X11_sees  (q j : Nat) : Prop := False
theorem f_X11_sees {F : Nat}  {r : Int} {σ' : mMem} {x1 x2 : Int} {σ : mMem} (hf : g_X11_sees F x1 x2 σ = some (r, σ')) : ∀ q j, ¬ T_X11_sees  q j → σ' q j = σ q j := by
  unfold g_X11_sees at hf
  have hs : ∀ q j, ¬ T_X11_sees  q j → σ q j = σ q j := fun _ _ _ => rfl
  refine f_gp hf (fun hg1 hf => ?_)
  refine f_mob hf (fun r2 σ3 h1 hf => ?_)
  have hs := fun q j hq => (f_X5_hasBox h1 q j (by unfold T_X5_hasBox; exact id)).trans (hs q j hq)
  refine f_ite hf (fun hf => ?_) (fun hf => ?_)
  · refine f_ite hf (fun hf => ?_) (fun hf => ?_)
    · refine f_mob hf (fun r4 σ5 h1 hf => ?_)
      have hs := fun q j hq => (f_X10_greySeen h1 q j (by unfold T_X10_greySeen; exact id)).trans (hs q j hq)
      cases hf
      exact hs
    refine f_ite hf (fun hf => ?_) (fun hf => ?_)
    · refine f_mob hf (fun r6 σ7 h1 hf => ?_)
      have hs := fun q j hq => (f_X10_greySeen h1 q j (by unfold T_X10_greySeen; exact id)).trans (hs q j hq)
      cases hf
      exact hs
    refine f_ite hf (fun hf => ?_) (fun hf => ?_)
    · refine f_mob hf (fun r8 σ9 h1 hf => ?_)
      have hs := fun q j hq => (f_X10_greySeen h1 q j (by unfold T_X10_greySeen; exact id)).trans (hs q j hq)
      cases hf
      exact hs
    cases hf
    exact hs
  · cases hf
    exact hs
def T_X11_later  (q j : Nat) : Prop := (q = 29 ∧ (j = 3 ∨ j = 4 ∨ j = 5 ∨ j = 6 ∨ j = 7)) ∨ q = 30 ∨ q = 31 ∨ q = 33 ∨ q = 34
theorem f_X11_later_b34 {F : Nat}  {r : Int} {σ' : mMem}   {σ : mMem} (hf : g_X11_later_b34 F  σ = some (r, σ')) : ∀ q j, ¬ T_X11_later  q j → σ' q j = σ q j := by
  unfold g_X11_later_b34 at hf
  have hs : ∀ q j, ¬ T_X11_later  q j → σ q j = σ q j := fun _ _ _ => rfl
  cases hf
  exact hs
theorem f_X11_later {F : Nat}  {r : Int} {σ' : mMem} {x1 x2 x3 : Int} {σ : mMem} (hf : g_X11_later F x1 x2 x3 σ = some (r, σ')) : ∀ q j, ¬ T_X11_later  q j → σ' q j = σ q j := by
  unfold g_X11_later at hf
  have hs : ∀ q j, ¬ T_X11_later  q j → σ q j = σ q j := fun _ _ _ => rfl
  refine f_gp hf (fun hg1 hf => ?_)
  refine f_mob hf (fun r2 σ3 h1 hf => ?_)
  have hs := fun q j hq => (f_X5_hasBox h1 q j (by unfold T_X5_hasBox; exact id)).trans (hs q j hq)
  refine f_ite hf (fun hf => ?_) (fun hf => ?_)
  · exact fun q j hq => (f_X11_later_b34 hf q j hq).trans (hs q j hq)
  · refine f_mob hf (fun r4 σ5 h1 hf => ?_)
    have hs := fun q j hq => (f_X10_mayPass h1 q j (by unfold T_X10_mayPass; exact id)).trans (hs q j hq)
    refine f_ite hf (fun hf => ?_) (fun hf => ?_)
    · exact fun q j hq => (f_X11_later_b34 hf q j hq).trans (hs q j hq)
    · refine f_ite hf (fun hf => ?_) (fun hf => ?_)
      · exact fun q j hq => (f_X11_later_b34 hf q j hq).trans (hs q j hq)
      · refine f_ite hf (fun hf => ?_) (fun hf => ?_)
        · refine f_mob hf (fun r6 σ7 h1 hf => ?_)
          have hs := fun q j hq => (f_X0_stateBehind h1 q j (by unfold T_X11_later at hq; unfold T_X0_stateBehind; omega)).trans (hs q j hq)
          cases hf
          exact hs
        · exact fun q j hq => (f_X11_later_b34 hf q j hq).trans (hs q j hq)
def T_X11_round  (q j : Nat) : Prop := (q = 29 ∧ (j = 3 ∨ j = 4 ∨ j = 5 ∨ j = 6 ∨ j = 7)) ∨ q = 30 ∨ q = 31 ∨ q = 33 ∨ q = 34
theorem f_X11_round_b27 {F : Nat}  {r : Int} {σ' : mMem}   {t0 : Int} {σ : mMem} (hf : g_X11_round_b27 F t0 σ = some (r, σ')) : ∀ q j, ¬ T_X11_round  q j → σ' q j = σ q j := by
  unfold g_X11_round_b27 at hf
  have hs : ∀ q j, ¬ T_X11_round  q j → σ q j = σ q j := fun _ _ _ => rfl
  cases hf
  exact hs
theorem f_X11_round {F : Nat}  {r : Int} {σ' : mMem} {x1 : Int} {σ : mMem} (hf : g_X11_round F x1 σ = some (r, σ')) : ∀ q j, ¬ T_X11_round  q j → σ' q j = σ q j := by
  unfold g_X11_round at hf
  have hs : ∀ q j, ¬ T_X11_round  q j → σ q j = σ q j := fun _ _ _ => rfl
  refine f_gp hf (fun hg1 hf => ?_)
  refine f_mob hf (fun r2 σ3 h1 hf => ?_)
  have hs := fun q j hq => (f_X5_hasBox h1 q j (by unfold T_X5_hasBox; exact id)).trans (hs q j hq)
  refine f_ite hf (fun hf => ?_) (fun hf => ?_)
  · exact fun q j hq => (f_X11_round_b27 hf q j hq).trans (hs q j hq)
  · refine f_mob hf (fun r4 σ5 h1 hf => ?_)
    have hs := fun q j hq => (f_X0_stepsRound h1 q j (by unfold T_X11_round at hq; unfold T_X0_stepsRound; omega)).trans (hs q j hq)
    exact fun q j hq => (f_X11_round_b27 hf q j hq).trans (hs q j hq)
def T_X11_loses  (q j : Nat) : Prop := (q = 29 ∧ (j = 3 ∨ j = 4 ∨ j = 5 ∨ j = 6 ∨ j = 7)) ∨ q = 30 ∨ q = 31 ∨ q = 33 ∨ q = 34
theorem f_X11_loses_b22 {F : Nat}  {r : Int} {σ' : mMem}   {σ : mMem} (hf : g_X11_loses_b22 F  σ = some (r, σ')) : ∀ q j, ¬ T_X11_loses  q j → σ' q j = σ q j := by
  unfold g_X11_loses_b22 at hf
  have hs : ∀ q j, ¬ T_X11_loses  q j → σ q j = σ q j := fun _ _ _ => rfl
  cases hf
  exact hs
theorem f_X11_loses {F : Nat}  {r : Int} {σ' : mMem} {x1 x2 : Int} {σ : mMem} (hf : g_X11_loses F x1 x2 σ = some (r, σ')) : ∀ q j, ¬ T_X11_loses  q j → σ' q j = σ q j := by
  unfold g_X11_loses at hf
  have hs : ∀ q j, ¬ T_X11_loses  q j → σ q j = σ q j := fun _ _ _ => rfl
  refine f_gp hf (fun hg1 hf => ?_)
  refine f_mob hf (fun r2 σ3 h1 hf => ?_)
  have hs := fun q j hq => (f_X5_hasBox h1 q j (by unfold T_X5_hasBox; exact id)).trans (hs q j hq)
  refine f_ite hf (fun hf => ?_) (fun hf => ?_)
  · exact fun q j hq => (f_X11_loses_b22 hf q j hq).trans (hs q j hq)
  · refine f_ite hf (fun hf => ?_) (fun hf => ?_)
    · exact fun q j hq => (f_X11_loses_b22 hf q j hq).trans (hs q j hq)
    · refine f_ite hf (fun hf => ?_) (fun hf => ?_)
      · refine f_mob hf (fun r4 σ5 h1 hf => ?_)
        have hs := fun q j hq => (f_X0_stepsToLoss h1 q j (by unfold T_X11_loses at hq; unfold T_X0_stepsToLoss; omega)).trans (hs q j hq)
        cases hf
        exact hs
      · exact fun q j hq => (f_X11_loses_b22 hf q j hq).trans (hs q j hq)
def T_X11_jam  (q j : Nat) : Prop := (q = 29 ∧ (j = 3 ∨ j = 4 ∨ j = 5 ∨ j = 6 ∨ j = 7)) ∨ q = 30 ∨ q = 31 ∨ q = 33 ∨ q = 34
theorem f_X11_jam {F : Nat}  {r : Int} {σ' : mMem} {σ : mMem} (hf : g_X11_jam F σ = some (r, σ')) : ∀ q j, ¬ T_X11_jam  q j → σ' q j = σ q j := by
  unfold g_X11_jam at hf
  have hs : ∀ q j, ¬ T_X11_jam  q j → σ q j = σ q j := fun _ _ _ => rfl
  refine f_mob hf (fun r1 σ2 h1 hf => ?_)
  have hs := fun q j hq => (f_X0_firstJam h1 q j (by unfold T_X11_jam at hq; unfold T_X0_firstJam; omega)).trans (hs q j hq)
  cases hf
  exact hs
def T_X11_gap  (q j : Nat) : Prop := (q = 29 ∧ (j = 3 ∨ j = 4 ∨ j = 5 ∨ j = 6 ∨ j = 7)) ∨ q = 30 ∨ q = 31 ∨ q = 33 ∨ q = 34
theorem f_X11_gap_b27 {F : Nat}  {r : Int} {σ' : mMem}   {σ : mMem} (hf : g_X11_gap_b27 F  σ = some (r, σ')) : ∀ q j, ¬ T_X11_gap  q j → σ' q j = σ q j := by
  unfold g_X11_gap_b27 at hf
  have hs : ∀ q j, ¬ T_X11_gap  q j → σ q j = σ q j := fun _ _ _ => rfl
  cases hf
  exact hs
theorem f_X11_gap_b61 {F : Nat}  {r : Int} {σ' : mMem}   {t0 : Int} {σ : mMem} (hf : g_X11_gap_b61 F t0 σ = some (r, σ')) : ∀ q j, ¬ T_X11_gap  q j → σ' q j = σ q j := by
  unfold g_X11_gap_b61 at hf
  have hs : ∀ q j, ¬ T_X11_gap  q j → σ q j = σ q j := fun _ _ _ => rfl
  cases hf
  exact hs
theorem f_X11_gap {F : Nat}  {r : Int} {σ' : mMem} {x1 x2 x3 : Int} {σ : mMem} (hf : g_X11_gap F x1 x2 x3 σ = some (r, σ')) : ∀ q j, ¬ T_X11_gap  q j → σ' q j = σ q j := by
  unfold g_X11_gap at hf
  have hs : ∀ q j, ¬ T_X11_gap  q j → σ q j = σ q j := fun _ _ _ => rfl
  refine f_gp hf (fun hg1 hf => ?_)
  refine f_mob hf (fun r2 σ3 h1 hf => ?_)
  have hs := fun q j hq => (f_X5_hasBox h1 q j (by unfold T_X5_hasBox; exact id)).trans (hs q j hq)
  refine f_ite hf (fun hf => ?_) (fun hf => ?_)
  · exact fun q j hq => (f_X11_gap_b27 hf q j hq).trans (hs q j hq)
  · refine f_gp hf (fun hg4 hf => ?_)
    refine f_mob hf (fun r5 σ6 h1 hf => ?_)
    have hs := fun q j hq => (f_X5_hasBox h1 q j (by unfold T_X5_hasBox; exact id)).trans (hs q j hq)
    refine f_ite hf (fun hf => ?_) (fun hf => ?_)
    · exact fun q j hq => (f_X11_gap_b27 hf q j hq).trans (hs q j hq)
    · refine f_ite hf (fun hf => ?_) (fun hf => ?_)
      · refine f_mob hf (fun r7 σ8 h1 hf => ?_)
        have hs := fun q j hq => (f_X10_mayPass h1 q j (by unfold T_X10_mayPass; exact id)).trans (hs q j hq)
        refine f_ite hf (fun hf => ?_) (fun hf => ?_)
        · exact fun q j hq => (f_X11_gap_b61 hf q j hq).trans (hs q j hq)
        · refine f_mob hf (fun r9 σ10 h1 hf => ?_)
          have hs := fun q j hq => (f_X0_nearest h1 q j (by unfold T_X11_gap at hq; unfold T_X0_nearest; omega)).trans (hs q j hq)
          exact fun q j hq => (f_X11_gap_b61 hf q j hq).trans (hs q j hq)
      · exact fun q j hq => (f_X11_gap_b27 hf q j hq).trans (hs q j hq)
def T_X11_tuned  (q j : Nat) : Prop := (q = 29 ∧ (j = 3 ∨ j = 4 ∨ j = 5 ∨ j = 6 ∨ j = 7)) ∨ q = 30 ∨ q = 31 ∨ q = 33 ∨ q = 34
theorem f_X11_tuned_b34 {F : Nat}  {r : Int} {σ' : mMem}   {σ : mMem} (hf : g_X11_tuned_b34 F  σ = some (r, σ')) : ∀ q j, ¬ T_X11_tuned  q j → σ' q j = σ q j := by
  unfold g_X11_tuned_b34 at hf
  have hs : ∀ q j, ¬ T_X11_tuned  q j → σ q j = σ q j := fun _ _ _ => rfl
  cases hf
  exact hs
theorem f_X11_tuned {F : Nat}  {r : Int} {σ' : mMem} {x1 x2 x3 : Int} {σ : mMem} (hf : g_X11_tuned F x1 x2 x3 σ = some (r, σ')) : ∀ q j, ¬ T_X11_tuned  q j → σ' q j = σ q j := by
  unfold g_X11_tuned at hf
  have hs : ∀ q j, ¬ T_X11_tuned  q j → σ q j = σ q j := fun _ _ _ => rfl
  refine f_gp hf (fun hg1 hf => ?_)
  refine f_mob hf (fun r2 σ3 h1 hf => ?_)
  have hs := fun q j hq => (f_X5_hasBox h1 q j (by unfold T_X5_hasBox; exact id)).trans (hs q j hq)
  refine f_ite hf (fun hf => ?_) (fun hf => ?_)
  · exact fun q j hq => (f_X11_tuned_b34 hf q j hq).trans (hs q j hq)
  · refine f_mob hf (fun r4 σ5 h1 hf => ?_)
    have hs := fun q j hq => (f_X10_mayPass h1 q j (by unfold T_X10_mayPass; exact id)).trans (hs q j hq)
    refine f_ite hf (fun hf => ?_) (fun hf => ?_)
    · exact fun q j hq => (f_X11_tuned_b34 hf q j hq).trans (hs q j hq)
    · refine f_ite hf (fun hf => ?_) (fun hf => ?_)
      · exact fun q j hq => (f_X11_tuned_b34 hf q j hq).trans (hs q j hq)
      · refine f_ite hf (fun hf => ?_) (fun hf => ?_)
        · refine f_mob hf (fun r6 σ7 h1 hf => ?_)
          have hs := fun q j hq => (f_X0_bestEyes h1 q j (by unfold T_X11_tuned at hq; unfold T_X0_bestEyes; omega)).trans (hs q j hq)
          cases hf
          exact hs
        · exact fun q j hq => (f_X11_tuned_b34 hf q j hq).trans (hs q j hq)
