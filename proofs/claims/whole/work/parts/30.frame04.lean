def T_X12_wheel  (q j : Nat) : Prop := (q = 86 ∧ (j = 60 ∨ j = 61 ∨ j = 63 ∨ j = 64)) ∨ q = 110 ∨ q = 111 ∨ q = 112 ∨ q = 113 ∨ q = 114 ∨ q = 115 ∨ q = 116 ∨ q = 117 ∨ q = 118 ∨ q = 119 ∨ q = 120 ∨ q = 124
theorem f_X12_wheel_b17 {F : Nat}  {r : Int} {σ' : mMem}   {σ : mMem} (hf : g_X12_wheel_b17 F  σ = some (r, σ')) : ∀ q j, ¬ T_X12_wheel  q j → σ' q j = σ q j := by
  unfold g_X12_wheel_b17 at hf
  have hs : ∀ q j, ¬ T_X12_wheel  q j → σ q j = σ q j := fun _ _ _ => rfl
  cases hf
  exact hs
theorem f_X12_wheel_b234 {F : Nat}  {r : Int} {σ' : mMem}   {x4 : Int} {σ : mMem} (hf : g_X12_wheel_b234 F x4 σ = some (r, σ')) : ∀ q j, ¬ T_X12_wheel  q j → σ' q j = σ q j := by
  unfold g_X12_wheel_b234 at hf
  have hs : ∀ q j, ¬ T_X12_wheel  q j → σ q j = σ q j := fun _ _ _ => rfl
  cases hf
  exact hs
theorem f_X12_wheel_b228 {F : Nat}  {r : Int} {σ' : mMem} {k81 : Int → Int → Int → Int → mMem → mRs} (hk81 : ∀ (x3 x4 x5 x6 : Int) (σ : mMem), k81 x3 x4 x5 x6 σ = some (r, σ') → ∀ q j, ¬ T_X12_wheel  q j → σ' q j = σ q j) {x3 x4 x5 x6 : Int} {σ : mMem} (hf : g_X12_wheel_b228 F k81 x3 x4 x5 x6 σ = some (r, σ')) : ∀ q j, ¬ T_X12_wheel  q j → σ' q j = σ q j := by
  unfold g_X12_wheel_b228 at hf
  have hs : ∀ q j, ¬ T_X12_wheel  q j → σ q j = σ q j := fun _ _ _ => rfl
  exact fun q j hq => (hk81 _ _ _ _ _ hf q j hq).trans (hs q j hq)
theorem f_X12_wheel_b202 {F : Nat}  {r : Int} {σ' : mMem} {k81 : Int → Int → Int → Int → mMem → mRs} {k103 : Int → Int → Int → Int → Int → Int → mMem → mRs} (hk81 : ∀ (x3 x4 x5 x6 : Int) (σ : mMem), k81 x3 x4 x5 x6 σ = some (r, σ') → ∀ q j, ¬ T_X12_wheel  q j → σ' q j = σ q j) (hk103 : ∀ (x3 x4 x5 x6 x7 x8 : Int) (σ : mMem), k103 x3 x4 x5 x6 x7 x8 σ = some (r, σ') → ∀ q j, ¬ T_X12_wheel  q j → σ' q j = σ q j) {x3 x4 x5 x6 x8 t0 : Int} {σ : mMem} (hf : g_X12_wheel_b202 F k81 k103 x3 x4 x5 x6 x8 t0 σ = some (r, σ')) : ∀ q j, ¬ T_X12_wheel  q j → σ' q j = σ q j := by
  unfold g_X12_wheel_b202 at hf
  have hs : ∀ q j, ¬ T_X12_wheel  q j → σ q j = σ q j := fun _ _ _ => rfl
  exact fun q j hq => (hk103 _ _ _ _ _ _ _ hf q j hq).trans (hs q j hq)
theorem f_X12_wheel_b179 {F : Nat}  {r : Int} {σ' : mMem} {k81 : Int → Int → Int → Int → mMem → mRs} {k103 : Int → Int → Int → Int → Int → Int → mMem → mRs} {k116 : Int → Int → Int → Int → Int → Int → Int → Int → mMem → mRs} (hk81 : ∀ (x3 x4 x5 x6 : Int) (σ : mMem), k81 x3 x4 x5 x6 σ = some (r, σ') → ∀ q j, ¬ T_X12_wheel  q j → σ' q j = σ q j) (hk103 : ∀ (x3 x4 x5 x6 x7 x8 : Int) (σ : mMem), k103 x3 x4 x5 x6 x7 x8 σ = some (r, σ') → ∀ q j, ¬ T_X12_wheel  q j → σ' q j = σ q j) (hk116 : ∀ (x3 x4 x5 x6 x7 x8 x9 x10 : Int) (σ : mMem), k116 x3 x4 x5 x6 x7 x8 x9 x10 σ = some (r, σ') → ∀ q j, ¬ T_X12_wheel  q j → σ' q j = σ q j) {x3 x4 x5 x6 x7 x8 x10 t0 t1 : Int} {σ : mMem} (hf : g_X12_wheel_b179 F k81 k103 k116 x3 x4 x5 x6 x7 x8 x10 t0 t1 σ = some (r, σ')) : ∀ q j, ¬ T_X12_wheel  q j → σ' q j = σ q j := by
  unfold g_X12_wheel_b179 at hf
  have hs : ∀ q j, ¬ T_X12_wheel  q j → σ q j = σ q j := fun _ _ _ => rfl
  refine f_let hf (fun y1012 hf => ?_)
  exact fun q j hq => (hk116 _ _ _ _ _ _ _ _ _ hf q j hq).trans (hs q j hq)
theorem f_X12_wheel_b178 {F : Nat}  {r : Int} {σ' : mMem} {k81 : Int → Int → Int → Int → mMem → mRs} {k103 : Int → Int → Int → Int → Int → Int → mMem → mRs} {k116 : Int → Int → Int → Int → Int → Int → Int → Int → mMem → mRs} (hk81 : ∀ (x3 x4 x5 x6 : Int) (σ : mMem), k81 x3 x4 x5 x6 σ = some (r, σ') → ∀ q j, ¬ T_X12_wheel  q j → σ' q j = σ q j) (hk103 : ∀ (x3 x4 x5 x6 x7 x8 : Int) (σ : mMem), k103 x3 x4 x5 x6 x7 x8 σ = some (r, σ') → ∀ q j, ¬ T_X12_wheel  q j → σ' q j = σ q j) (hk116 : ∀ (x3 x4 x5 x6 x7 x8 x9 x10 : Int) (σ : mMem), k116 x3 x4 x5 x6 x7 x8 x9 x10 σ = some (r, σ') → ∀ q j, ¬ T_X12_wheel  q j → σ' q j = σ q j) {x3 x4 x5 x6 x7 x8 x10 t0 : Int} {σ : mMem} (hf : g_X12_wheel_b178 F k81 k103 k116 x3 x4 x5 x6 x7 x8 x10 t0 σ = some (r, σ')) : ∀ q j, ¬ T_X12_wheel  q j → σ' q j = σ q j := by
  unfold g_X12_wheel_b178 at hf
  have hs : ∀ q j, ¬ T_X12_wheel  q j → σ q j = σ q j := fun _ _ _ => rfl
  exact fun q j hq => (f_X12_wheel_b179 hk81 hk103 hk116 hf q j hq).trans (hs q j hq)
theorem f_X12_wheel_h116 {F : Nat}  {r : Int} {σ' : mMem} {k81 : Int → Int → Int → Int → mMem → mRs} {k103 : Int → Int → Int → Int → Int → Int → mMem → mRs} (hk81 : ∀ (x3 x4 x5 x6 : Int) (σ : mMem), k81 x3 x4 x5 x6 σ = some (r, σ') → ∀ q j, ¬ T_X12_wheel  q j → σ' q j = σ q j) (hk103 : ∀ (x3 x4 x5 x6 x7 x8 : Int) (σ : mMem), k103 x3 x4 x5 x6 x7 x8 σ = some (r, σ') → ∀ q j, ¬ T_X12_wheel  q j → σ' q j = σ q j) (n : Nat) : ∀ {x3 x4 x5 x6 x7 x8 x9 x10 : Int} {σ : mMem} (_ : g_X12_wheel_h116 F k81 k103 n x3 x4 x5 x6 x7 x8 x9 x10 σ = some (r, σ')), ∀ q j, ¬ T_X12_wheel  q j → σ' q j = σ q j := by
  induction n with
  | zero =>
    intro x3 x4 x5 x6 x7 x8 x9 x10 σ hf
    unfold g_X12_wheel_h116 at hf
    cases hf
  | succ n ih =>
    have hk116 : ∀ (x3 x4 x5 x6 x7 x8 x9 x10 : Int) (σ : mMem), g_X12_wheel_h116 F k81 k103 n x3 x4 x5 x6 x7 x8 x9 x10 σ = some (r, σ') → ∀ q j, ¬ T_X12_wheel  q j → σ' q j = σ q j := fun x3 x4 x5 x6 x7 x8 x9 x10 σ hf => ih hf
    intro x3 x4 x5 x6 x7 x8 x9 x10 σ hf
    unfold g_X12_wheel_h116 at hf
    have hs : ∀ q j, ¬ T_X12_wheel  q j → σ q j = σ q j := fun _ _ _ => rfl
    refine f_ite hf (fun hf => ?_) (fun hf => ?_)
    · refine f_ite hf (fun hf => ?_) (fun hf => ?_)
      · exact fun q j hq => (f_X12_wheel_b202 hk81 hk103 hf q j hq).trans (hs q j hq)
      · exact fun q j hq => (f_X12_wheel_b202 hk81 hk103 hf q j hq).trans (hs q j hq)
    · refine f_ite hf (fun hf => ?_) (fun hf => ?_)
      · exact fun q j hq => (f_X12_wheel_b178 hk81 hk103 hk116 hf q j hq).trans (hs q j hq)
      · refine f_ite hf (fun hf => ?_) (fun hf => ?_)
        · exact fun q j hq => (f_X12_wheel_b178 hk81 hk103 hk116 hf q j hq).trans (hs q j hq)
        · refine f_gd hf (fun hf => ?_)
          refine f_gd hf (fun hf => ?_)
          refine f_ite hf (fun hf => ?_) (fun hf => ?_)
          · exact fun q j hq => (f_X12_wheel_b178 hk81 hk103 hk116 hf q j hq).trans (hs q j hq)
          · exact fun q j hq => (f_X12_wheel_b179 hk81 hk103 hk116 hf q j hq).trans (hs q j hq)
theorem f_X12_wheel_h103 {F : Nat}  {r : Int} {σ' : mMem} {k81 : Int → Int → Int → Int → mMem → mRs} (hk81 : ∀ (x3 x4 x5 x6 : Int) (σ : mMem), k81 x3 x4 x5 x6 σ = some (r, σ') → ∀ q j, ¬ T_X12_wheel  q j → σ' q j = σ q j) (n : Nat) : ∀ {x3 x4 x5 x6 x7 x8 : Int} {σ : mMem} (_ : g_X12_wheel_h103 F k81 n x3 x4 x5 x6 x7 x8 σ = some (r, σ')), ∀ q j, ¬ T_X12_wheel  q j → σ' q j = σ q j := by
  induction n with
  | zero =>
    intro x3 x4 x5 x6 x7 x8 σ hf
    unfold g_X12_wheel_h103 at hf
    cases hf
  | succ n ih =>
    have hk103 : ∀ (x3 x4 x5 x6 x7 x8 : Int) (σ : mMem), g_X12_wheel_h103 F k81 n x3 x4 x5 x6 x7 x8 σ = some (r, σ') → ∀ q j, ¬ T_X12_wheel  q j → σ' q j = σ q j := fun x3 x4 x5 x6 x7 x8 σ hf => ih hf
    intro x3 x4 x5 x6 x7 x8 σ hf
    unfold g_X12_wheel_h103 at hf
    have hs : ∀ q j, ¬ T_X12_wheel  q j → σ q j = σ q j := fun _ _ _ => rfl
    refine f_ite hf (fun hf => ?_) (fun hf => ?_)
    · refine f_ite hf (fun hf => ?_) (fun hf => ?_)
      · exact fun q j hq => (f_X12_wheel_b228 hk81 hf q j hq).trans (hs q j hq)
      · exact fun q j hq => (f_X12_wheel_b228 hk81 hf q j hq).trans (hs q j hq)
    · exact fun q j hq => (f_X12_wheel_h116 hk81 hk103 _ hf q j hq).trans (hs q j hq)
theorem f_X12_wheel_h81 {F : Nat}  {r : Int} {σ' : mMem}   (n : Nat) : ∀ {x3 x4 x5 x6 : Int} {σ : mMem} (_ : g_X12_wheel_h81 F n x3 x4 x5 x6 σ = some (r, σ')), ∀ q j, ¬ T_X12_wheel  q j → σ' q j = σ q j := by
  induction n with
  | zero =>
    intro x3 x4 x5 x6 σ hf
    unfold g_X12_wheel_h81 at hf
    cases hf
  | succ n ih =>
    have hk81 : ∀ (x3 x4 x5 x6 : Int) (σ : mMem), g_X12_wheel_h81 F n x3 x4 x5 x6 σ = some (r, σ') → ∀ q j, ¬ T_X12_wheel  q j → σ' q j = σ q j := fun x3 x4 x5 x6 σ hf => ih hf
    intro x3 x4 x5 x6 σ hf
    unfold g_X12_wheel_h81 at hf
    have hs : ∀ q j, ¬ T_X12_wheel  q j → σ q j = σ q j := fun _ _ _ => rfl
    refine f_mob hf (fun r309 σ310 h1 hf => ?_)
    have hs := fun q j hq => (f_X12_isAhead h1 q j (by unfold T_X12_isAhead; exact id)).trans (hs q j hq)
    refine f_ite hf (fun hf => ?_) (fun hf => ?_)
    · exact fun q j hq => (f_X12_wheel_b234 hf q j hq).trans (hs q j hq)
    · refine f_ite hf (fun hf => ?_) (fun hf => ?_)
      · exact fun q j hq => (f_X12_wheel_b234 hf q j hq).trans (hs q j hq)
      · exact fun q j hq => (f_X12_wheel_h103 hk81 _ hf q j hq).trans (hs q j hq)
theorem f_X12_wheel_b56 {F : Nat}  {r : Int} {σ' : mMem} {k24 : Int → Int → Int → Int → mMem → mRs} (hk24 : ∀ (x1 x2 x3 x4 : Int) (σ : mMem), k24 x1 x2 x3 x4 σ = some (r, σ') → ∀ q j, ¬ T_X12_wheel  q j → σ' q j = σ q j) {x1 x2 x4 t0 t1 : Int} {σ : mMem} (hf : g_X12_wheel_b56 F k24 x1 x2 x4 t0 t1 σ = some (r, σ')) : ∀ q j, ¬ T_X12_wheel  q j → σ' q j = σ q j := by
  unfold g_X12_wheel_b56 at hf
  have hs : ∀ q j, ¬ T_X12_wheel  q j → σ q j = σ q j := fun _ _ _ => rfl
  refine f_let hf (fun y411 hf => ?_)
  exact fun q j hq => (hk24 _ _ _ _ _ hf q j hq).trans (hs q j hq)
theorem f_X12_wheel_h24 {F : Nat}  {r : Int} {σ' : mMem}   (n : Nat) : ∀ {x1 x2 x3 x4 : Int} {σ : mMem} (_ : g_X12_wheel_h24 F n x1 x2 x3 x4 σ = some (r, σ')), ∀ q j, ¬ T_X12_wheel  q j → σ' q j = σ q j := by
  induction n with
  | zero =>
    intro x1 x2 x3 x4 σ hf
    unfold g_X12_wheel_h24 at hf
    cases hf
  | succ n ih =>
    have hk24 : ∀ (x1 x2 x3 x4 : Int) (σ : mMem), g_X12_wheel_h24 F n x1 x2 x3 x4 σ = some (r, σ') → ∀ q j, ¬ T_X12_wheel  q j → σ' q j = σ q j := fun x1 x2 x3 x4 σ hf => ih hf
    intro x1 x2 x3 x4 σ hf
    unfold g_X12_wheel_h24 at hf
    have hs : ∀ q j, ¬ T_X12_wheel  q j → σ q j = σ q j := fun _ _ _ => rfl
    refine f_ite hf (fun hf => ?_) (fun hf => ?_)
    · refine f_ite hf (fun hf => ?_) (fun hf => ?_)
      · exact fun q j hq => (f_X12_wheel_h81 _ hf q j hq).trans (hs q j hq)
      · cases hf
        exact hs
    · refine f_mob hf (fun r205 σ206 h1 hf => ?_)
      have hs := fun q j hq => (f_X12_walks h1 q j (by unfold T_X12_wheel at hq; unfold T_X12_walks; omega)).trans (hs q j hq)
      refine f_mob hf (fun r207 σ208 h1 hf => ?_)
      have hs := fun q j hq => (f_X12_isTrack h1 q j (by unfold T_X12_isTrack; exact id)).trans (hs q j hq)
      refine f_ite hf (fun hf => ?_) (fun hf => ?_)
      · exact fun q j hq => (f_X12_wheel_b56 hk24 hf q j hq).trans (hs q j hq)
      · exact fun q j hq => (f_X12_wheel_b56 hk24 hf q j hq).trans (hs q j hq)
theorem f_X12_wheel {F : Nat}  {r : Int} {σ' : mMem} {x1 x2 : Int} {σ : mMem} (hf : g_X12_wheel F x1 x2 σ = some (r, σ')) : ∀ q j, ¬ T_X12_wheel  q j → σ' q j = σ q j := by
  unfold g_X12_wheel at hf
  have hs : ∀ q j, ¬ T_X12_wheel  q j → σ q j = σ q j := fun _ _ _ => rfl
  refine f_mob hf (fun r1 σ2 h1 hf => ?_)
  have hs := fun q j hq => (f_X12_isBox h1 q j (by unfold T_X12_isBox; exact id)).trans (hs q j hq)
  refine f_ite hf (fun hf => ?_) (fun hf => ?_)
  · exact fun q j hq => (f_X12_wheel_b17 hf q j hq).trans (hs q j hq)
  · refine f_mob hf (fun r3 σ4 h1 hf => ?_)
    have hs := fun q j hq => (f_X12_is h1 q j (by unfold T_X12_is; exact id)).trans (hs q j hq)
    refine f_ite hf (fun hf => ?_) (fun hf => ?_)
    · exact fun q j hq => (f_X12_wheel_h24 _ hf q j hq).trans (hs q j hq)
    · exact fun q j hq => (f_X12_wheel_b17 hf q j hq).trans (hs q j hq)
def T_X12_steps  (q j : Nat) : Prop := (q = 86 ∧ (j = 52 ∨ j = 53 ∨ j = 63 ∨ j = 64)) ∨ q = 109 ∨ q = 110 ∨ q = 111 ∨ q = 112 ∨ q = 113 ∨ q = 114 ∨ q = 115 ∨ q = 116 ∨ q = 117 ∨ q = 118 ∨ q = 119 ∨ q = 120
theorem f_X12_steps_h25 {F : Nat}  {r : Int} {σ' : mMem}   (n : Nat) : ∀ {x1 x2 x3 : Int} {σ : mMem} (_ : g_X12_steps_h25 F n x1 x2 x3 σ = some (r, σ')), ∀ q j, ¬ T_X12_steps  q j → σ' q j = σ q j := by
  induction n with
  | zero =>
    intro x1 x2 x3 σ hf
    unfold g_X12_steps_h25 at hf
    cases hf
  | succ n ih =>
    have hk25 : ∀ (x1 x2 x3 : Int) (σ : mMem), g_X12_steps_h25 F n x1 x2 x3 σ = some (r, σ') → ∀ q j, ¬ T_X12_steps  q j → σ' q j = σ q j := fun x1 x2 x3 σ hf => ih hf
    intro x1 x2 x3 σ hf
    unfold g_X12_steps_h25 at hf
    have hs : ∀ q j, ¬ T_X12_steps  q j → σ q j = σ q j := fun _ _ _ => rfl
    refine f_ite hf (fun hf => ?_) (fun hf => ?_)
    · cases hf
      exact hs
    · refine f_mob hf (fun r107 σ108 h1 hf => ?_)
      have hs := fun q j hq => (f_X12_passes h1 q j (by unfold T_X12_steps at hq; unfold T_X12_passes; omega)).trans (hs q j hq)
      refine f_mob hf (fun r109 σ110 h1 hf => ?_)
      have hs := fun q j hq => (f_X12_bits h1 q j (by unfold T_X12_bits; exact id)).trans (hs q j hq)
      refine f_let hf (fun y111 hf => ?_)
      exact fun q j hq => (hk25 _ _ _ _ hf q j hq).trans (hs q j hq)
theorem f_X12_steps {F : Nat}  {r : Int} {σ' : mMem} {x1 : Int} {σ : mMem} (hf : g_X12_steps F x1 σ = some (r, σ')) : ∀ q j, ¬ T_X12_steps  q j → σ' q j = σ q j := by
  unfold g_X12_steps at hf
  have hs : ∀ q j, ¬ T_X12_steps  q j → σ q j = σ q j := fun _ _ _ => rfl
  refine f_mob hf (fun r1 σ2 h1 hf => ?_)
  have hs := fun q j hq => (f_X12_isAhead h1 q j (by unfold T_X12_isAhead; exact id)).trans (hs q j hq)
  refine f_ite hf (fun hf => ?_) (fun hf => ?_)
  · refine f_mob hf (fun r3 σ4 h1 hf => ?_)
    have hs := fun q j hq => (f_X12_keeps h1 q j (by unfold T_X12_steps at hq; unfold T_X12_keeps; omega)).trans (hs q j hq)
    exact fun q j hq => (f_X12_steps_h25 _ hf q j hq).trans (hs q j hq)
  · refine f_mob hf (fun r5 σ6 h1 hf => ?_)
    have hs := fun q j hq => (f_X12_refuses h1 q j (by unfold T_X12_steps at hq; unfold T_X12_refuses; omega)).trans (hs q j hq)
    cases hf
    exact hs
def T_X12_draw  (q j : Nat) : Prop := (q = 86 ∧ (j = 54))
theorem f_X12_draw {F : Nat}  {r : Int} {σ' : mMem} {x1 : Int} {σ : mMem} (hf : g_X12_draw F x1 σ = some (r, σ')) : ∀ q j, ¬ T_X12_draw  q j → σ' q j = σ q j := by
  unfold g_X12_draw at hf
  have hs : ∀ q j, ¬ T_X12_draw  q j → σ q j = σ q j := fun _ _ _ => rfl
  refine f_dv hf (fun hf => ?_)
  refine f_mem hf (fun q j hq => (mup_ne (by unfold T_X12_draw at hq; omega)).trans (hs q j hq)) (fun σ1 hs hf => ?_)
  refine f_dv hf (fun hf => ?_)
  refine f_dv hf (fun hf => ?_)
  cases hf
  exact hs
def T_X12_chance  (q j : Nat) : Prop := (q = 86 ∧ (j = 52 ∨ j = 53 ∨ j = 54 ∨ j = 63 ∨ j = 64)) ∨ q = 109 ∨ q = 110 ∨ q = 111 ∨ q = 112 ∨ q = 113 ∨ q = 114 ∨ q = 115 ∨ q = 116 ∨ q = 117 ∨ q = 118 ∨ q = 119 ∨ q = 120
theorem f_X12_chance_b92 {F : Nat}  {r : Int} {σ' : mMem} {k25 : Int → Int → Int → mMem → mRs} (hk25 : ∀ (x1 x2 x3 : Int) (σ : mMem), k25 x1 x2 x3 σ = some (r, σ') → ∀ q j, ¬ T_X12_chance  q j → σ' q j = σ q j) {x1 x2 x3 : Int} {σ : mMem} (hf : g_X12_chance_b92 F k25 x1 x2 x3 σ = some (r, σ')) : ∀ q j, ¬ T_X12_chance  q j → σ' q j = σ q j := by
  unfold g_X12_chance_b92 at hf
  have hs : ∀ q j, ¬ T_X12_chance  q j → σ q j = σ q j := fun _ _ _ => rfl
  refine f_mob hf (fun r214 σ215 h1 hf => ?_)
  have hs := fun q j hq => (f_X12_passes h1 q j (by unfold T_X12_chance at hq; unfold T_X12_passes; omega)).trans (hs q j hq)
  exact fun q j hq => (hk25 _ _ _ _ hf q j hq).trans (hs q j hq)
theorem f_X12_chance_h25 {F : Nat}  {r : Int} {σ' : mMem}   (n : Nat) : ∀ {x1 x2 x3 : Int} {σ : mMem} (_ : g_X12_chance_h25 F n x1 x2 x3 σ = some (r, σ')), ∀ q j, ¬ T_X12_chance  q j → σ' q j = σ q j := by
  induction n with
  | zero =>
    intro x1 x2 x3 σ hf
    unfold g_X12_chance_h25 at hf
    cases hf
  | succ n ih =>
    have hk25 : ∀ (x1 x2 x3 : Int) (σ : mMem), g_X12_chance_h25 F n x1 x2 x3 σ = some (r, σ') → ∀ q j, ¬ T_X12_chance  q j → σ' q j = σ q j := fun x1 x2 x3 σ hf => ih hf
    intro x1 x2 x3 σ hf
    unfold g_X12_chance_h25 at hf
    have hs : ∀ q j, ¬ T_X12_chance  q j → σ q j = σ q j := fun _ _ _ => rfl
    refine f_ite hf (fun hf => ?_) (fun hf => ?_)
    · cases hf
      exact hs
    · refine f_mob hf (fun r107 σ108 h1 hf => ?_)
      have hs := fun q j hq => (f_X12_draw h1 q j (by unfold T_X12_chance at hq; unfold T_X12_draw; omega)).trans (hs q j hq)
      refine f_mob hf (fun r109 σ110 h1 hf => ?_)
      have hs := fun q j hq => (f_X12_toldOf h1 q j (by unfold T_X12_toldOf; exact id)).trans (hs q j hq)
      refine f_ite hf (fun hf => ?_) (fun hf => ?_)
      · exact fun q j hq => (f_X12_chance_b92 hk25 hf q j hq).trans (hs q j hq)
      · refine f_gd hf (fun hf => ?_)
        refine f_ite hf (fun hf => ?_) (fun hf => ?_)
        · exact fun q j hq => (f_X12_chance_b92 hk25 hf q j hq).trans (hs q j hq)
        · refine f_gd hf (fun hf => ?_)
          refine f_mob hf (fun r111 σ112 h1 hf => ?_)
          have hs := fun q j hq => (f_X12_draw h1 q j (by unfold T_X12_chance at hq; unfold T_X12_draw; omega)).trans (hs q j hq)
          refine f_gd hf (fun hf => ?_)
          refine f_dv hf (fun hf => ?_)
          refine f_gd hf (fun hf => ?_)
          refine f_mem hf (fun q j hq => (mup_ne (by unfold T_X12_chance at hq; omega)).trans (hs q j hq)) (fun σ113 hs hf => ?_)
          exact fun q j hq => (f_X12_chance_b92 hk25 hf q j hq).trans (hs q j hq)
theorem f_X12_chance {F : Nat}  {r : Int} {σ' : mMem} {x1 : Int} {σ : mMem} (hf : g_X12_chance F x1 σ = some (r, σ')) : ∀ q j, ¬ T_X12_chance  q j → σ' q j = σ q j := by
  unfold g_X12_chance at hf
  have hs : ∀ q j, ¬ T_X12_chance  q j → σ q j = σ q j := fun _ _ _ => rfl
  refine f_mob hf (fun r1 σ2 h1 hf => ?_)
  have hs := fun q j hq => (f_X12_isAhead h1 q j (by unfold T_X12_isAhead; exact id)).trans (hs q j hq)
  refine f_ite hf (fun hf => ?_) (fun hf => ?_)
  · refine f_mob hf (fun r3 σ4 h1 hf => ?_)
    have hs := fun q j hq => (f_X12_keeps h1 q j (by unfold T_X12_chance at hq; unfold T_X12_keeps; omega)).trans (hs q j hq)
    exact fun q j hq => (f_X12_chance_h25 _ hf q j hq).trans (hs q j hq)
  · refine f_mob hf (fun r5 σ6 h1 hf => ?_)
    have hs := fun q j hq => (f_X12_refuses h1 q j (by unfold T_X12_chance at hq; unfold T_X12_refuses; omega)).trans (hs q j hq)
    cases hf
    exact hs
def T_X12_turn  (q j : Nat) : Prop := (q = 86 ∧ (j = 52 ∨ j = 53)) ∨ q = 109 ∨ q = 110 ∨ q = 111 ∨ q = 112 ∨ q = 113 ∨ q = 114 ∨ q = 115 ∨ q = 116 ∨ q = 117 ∨ q = 118
theorem f_X12_turn_b40 {F : Nat}  {r : Int} {σ' : mMem}   {t0 : Int} {σ : mMem} (hf : g_X12_turn_b40 F t0 σ = some (r, σ')) : ∀ q j, ¬ T_X12_turn  q j → σ' q j = σ q j := by
  unfold g_X12_turn_b40 at hf
  have hs : ∀ q j, ¬ T_X12_turn  q j → σ q j = σ q j := fun _ _ _ => rfl
  refine f_gd hf (fun hf => ?_)
  cases hf
  exact hs
theorem f_X12_turn_b27 {F : Nat}  {r : Int} {σ' : mMem}   {σ : mMem} (hf : g_X12_turn_b27 F  σ = some (r, σ')) : ∀ q j, ¬ T_X12_turn  q j → σ' q j = σ q j := by
  unfold g_X12_turn_b27 at hf
  have hs : ∀ q j, ¬ T_X12_turn  q j → σ q j = σ q j := fun _ _ _ => rfl
  refine f_mob hf (fun r108 σ109 h1 hf => ?_)
  have hs := fun q j hq => (f_X12_refuses h1 q j (by unfold T_X12_turn at hq; unfold T_X12_refuses; omega)).trans (hs q j hq)
  refine f_ite hf (fun hf => ?_) (fun hf => ?_)
  · exact fun q j hq => (f_X12_turn_b40 hf q j hq).trans (hs q j hq)
  · exact fun q j hq => (f_X12_turn_b40 hf q j hq).trans (hs q j hq)
theorem f_X12_turn {F : Nat}  {r : Int} {σ' : mMem} {x1 x2 : Int} {σ : mMem} (hf : g_X12_turn F x1 x2 σ = some (r, σ')) : ∀ q j, ¬ T_X12_turn  q j → σ' q j = σ q j := by
  unfold g_X12_turn at hf
  have hs : ∀ q j, ¬ T_X12_turn  q j → σ q j = σ q j := fun _ _ _ => rfl
  refine f_mob hf (fun r1 σ2 h1 hf => ?_)
  have hs := fun q j hq => (f_X12_isBox h1 q j (by unfold T_X12_isBox; exact id)).trans (hs q j hq)
  refine f_ite hf (fun hf => ?_) (fun hf => ?_)
  · exact fun q j hq => (f_X12_turn_b27 hf q j hq).trans (hs q j hq)
  · refine f_mob hf (fun r3 σ4 h1 hf => ?_)
    have hs := fun q j hq => (f_X12_is h1 q j (by unfold T_X12_is; exact id)).trans (hs q j hq)
    refine f_ite hf (fun hf => ?_) (fun hf => ?_)
    · exact fun q j hq => (f_X12_turn_b27 hf q j hq).trans (hs q j hq)
    · refine f_gd hf (fun hf => ?_)
      refine f_ite hf (fun hf => ?_) (fun hf => ?_)
      · refine f_mob hf (fun r5 σ6 h1 hf => ?_)
        have hs := fun q j hq => (f_X12_keeps h1 q j (by unfold T_X12_turn at hq; unfold T_X12_keeps; omega)).trans (hs q j hq)
        refine f_gd hf (fun hf => ?_)
        refine f_mem hf (fun q j hq => (mup_ne (by unfold T_X12_turn at hq; omega)).trans (hs q j hq)) (fun σ7 hs hf => ?_)
        refine f_gd hf (fun hf => ?_)
        cases hf
        exact hs
      · exact fun q j hq => (f_X12_turn_b27 hf q j hq).trans (hs q j hq)
def T_X12_put_  (q j : Nat) : Prop := (q = 86 ∧ (j = 52 ∨ j = 53)) ∨ q = 109 ∨ q = 110 ∨ q = 111 ∨ q = 112 ∨ q = 113 ∨ q = 114 ∨ q = 115 ∨ q = 116 ∨ q = 117 ∨ q = 118
theorem f_X12_put__b45 {F : Nat}  {r : Int} {σ' : mMem}   {t0 : Int} {σ : mMem} (hf : g_X12_put__b45 F t0 σ = some (r, σ')) : ∀ q j, ¬ T_X12_put_  q j → σ' q j = σ q j := by
  unfold g_X12_put__b45 at hf
  have hs : ∀ q j, ¬ T_X12_put_  q j → σ q j = σ q j := fun _ _ _ => rfl
  refine f_gd hf (fun hf => ?_)
  cases hf
  exact hs
theorem f_X12_put__b32 {F : Nat}  {r : Int} {σ' : mMem}   {σ : mMem} (hf : g_X12_put__b32 F  σ = some (r, σ')) : ∀ q j, ¬ T_X12_put_  q j → σ' q j = σ q j := by
  unfold g_X12_put__b32 at hf
  have hs : ∀ q j, ¬ T_X12_put_  q j → σ q j = σ q j := fun _ _ _ => rfl
  refine f_mob hf (fun r110 σ111 h1 hf => ?_)
  have hs := fun q j hq => (f_X12_refuses h1 q j (by unfold T_X12_put_ at hq; unfold T_X12_refuses; omega)).trans (hs q j hq)
  refine f_ite hf (fun hf => ?_) (fun hf => ?_)
  · exact fun q j hq => (f_X12_put__b45 hf q j hq).trans (hs q j hq)
  · exact fun q j hq => (f_X12_put__b45 hf q j hq).trans (hs q j hq)
theorem f_X12_put_ {F : Nat}  {r : Int} {σ' : mMem} {x1 x2 x3 : Int} {σ : mMem} (hf : g_X12_put_ F x1 x2 x3 σ = some (r, σ')) : ∀ q j, ¬ T_X12_put_  q j → σ' q j = σ q j := by
  unfold g_X12_put_ at hf
  have hs : ∀ q j, ¬ T_X12_put_  q j → σ q j = σ q j := fun _ _ _ => rfl
  refine f_mob hf (fun r1 σ2 h1 hf => ?_)
  have hs := fun q j hq => (f_X12_isBox h1 q j (by unfold T_X12_isBox; exact id)).trans (hs q j hq)
  refine f_ite hf (fun hf => ?_) (fun hf => ?_)
  · exact fun q j hq => (f_X12_put__b32 hf q j hq).trans (hs q j hq)
  · refine f_mob hf (fun r3 σ4 h1 hf => ?_)
    have hs := fun q j hq => (f_X12_isOn h1 q j (by unfold T_X12_isOn; exact id)).trans (hs q j hq)
    refine f_ite hf (fun hf => ?_) (fun hf => ?_)
    · exact fun q j hq => (f_X12_put__b32 hf q j hq).trans (hs q j hq)
    · refine f_mob hf (fun r5 σ6 h1 hf => ?_)
      have hs := fun q j hq => (f_X12_who h1 q j (by unfold T_X12_who; exact id)).trans (hs q j hq)
      refine f_ite hf (fun hf => ?_) (fun hf => ?_)
      · refine f_mob hf (fun r7 σ8 h1 hf => ?_)
        have hs := fun q j hq => (f_X12_keeps h1 q j (by unfold T_X12_put_ at hq; unfold T_X12_keeps; omega)).trans (hs q j hq)
        refine f_gd hf (fun hf => ?_)
        refine f_mem hf (fun q j hq => (mup_ne (by unfold T_X12_put_ at hq; omega)).trans (hs q j hq)) (fun σ9 hs hf => ?_)
        refine f_gd hf (fun hf => ?_)
        cases hf
        exact hs
      · exact fun q j hq => (f_X12_put__b32 hf q j hq).trans (hs q j hq)
def T_X12_shine  (q j : Nat) : Prop := (q = 86 ∧ (j = 52 ∨ j = 53)) ∨ q = 109 ∨ q = 110 ∨ q = 111 ∨ q = 112 ∨ q = 113 ∨ q = 114 ∨ q = 115 ∨ q = 116 ∨ q = 117 ∨ q = 118
theorem f_X12_shine_b33 {F : Nat}  {r : Int} {σ' : mMem}   {t0 : Int} {σ : mMem} (hf : g_X12_shine_b33 F t0 σ = some (r, σ')) : ∀ q j, ¬ T_X12_shine  q j → σ' q j = σ q j := by
  unfold g_X12_shine_b33 at hf
  have hs : ∀ q j, ¬ T_X12_shine  q j → σ q j = σ q j := fun _ _ _ => rfl
  refine f_gd hf (fun hf => ?_)
  cases hf
  exact hs
theorem f_X12_shine_b20 {F : Nat}  {r : Int} {σ' : mMem}   {σ : mMem} (hf : g_X12_shine_b20 F  σ = some (r, σ')) : ∀ q j, ¬ T_X12_shine  q j → σ' q j = σ q j := by
  unfold g_X12_shine_b20 at hf
  have hs : ∀ q j, ¬ T_X12_shine  q j → σ q j = σ q j := fun _ _ _ => rfl
  refine f_mob hf (fun r106 σ107 h1 hf => ?_)
  have hs := fun q j hq => (f_X12_refuses h1 q j (by unfold T_X12_shine at hq; unfold T_X12_refuses; omega)).trans (hs q j hq)
  refine f_ite hf (fun hf => ?_) (fun hf => ?_)
  · exact fun q j hq => (f_X12_shine_b33 hf q j hq).trans (hs q j hq)
  · exact fun q j hq => (f_X12_shine_b33 hf q j hq).trans (hs q j hq)
theorem f_X12_shine {F : Nat}  {r : Int} {σ' : mMem} {x1 : Int} {σ : mMem} (hf : g_X12_shine F x1 σ = some (r, σ')) : ∀ q j, ¬ T_X12_shine  q j → σ' q j = σ q j := by
  unfold g_X12_shine at hf
  have hs : ∀ q j, ¬ T_X12_shine  q j → σ q j = σ q j := fun _ _ _ => rfl
  refine f_mob hf (fun r1 σ2 h1 hf => ?_)
  have hs := fun q j hq => (f_X12_is h1 q j (by unfold T_X12_is; exact id)).trans (hs q j hq)
  refine f_ite hf (fun hf => ?_) (fun hf => ?_)
  · exact fun q j hq => (f_X12_shine_b20 hf q j hq).trans (hs q j hq)
  · refine f_gd hf (fun hf => ?_)
    refine f_ite hf (fun hf => ?_) (fun hf => ?_)
    · refine f_mob hf (fun r3 σ4 h1 hf => ?_)
      have hs := fun q j hq => (f_X12_keeps h1 q j (by unfold T_X12_shine at hq; unfold T_X12_keeps; omega)).trans (hs q j hq)
      refine f_gd hf (fun hf => ?_)
      refine f_mem hf (fun q j hq => (mup_ne (by unfold T_X12_shine at hq; omega)).trans (hs q j hq)) (fun σ5 hs hf => ?_)
      refine f_gd hf (fun hf => ?_)
      cases hf
      exact hs
    · exact fun q j hq => (f_X12_shine_b20 hf q j hq).trans (hs q j hq)
def T_X12_seed  (q j : Nat) : Prop := (q = 86 ∧ (j = 54)) ∨ q = 109
theorem f_X12_seed_b17 {F : Nat}  {r : Int} {σ' : mMem}   {t0 : Int} {σ : mMem} (hf : g_X12_seed_b17 F t0 σ = some (r, σ')) : ∀ q j, ¬ T_X12_seed  q j → σ' q j = σ q j := by
  unfold g_X12_seed_b17 at hf
  have hs : ∀ q j, ¬ T_X12_seed  q j → σ q j = σ q j := fun _ _ _ => rfl
  refine f_gd hf (fun hf => ?_)
  cases hf
  exact hs
theorem f_X12_seed {F : Nat}  {r : Int} {σ' : mMem} {x1 : Int} {σ : mMem} (hf : g_X12_seed F x1 σ = some (r, σ')) : ∀ q j, ¬ T_X12_seed  q j → σ' q j = σ q j := by
  unfold g_X12_seed at hf
  have hs : ∀ q j, ¬ T_X12_seed  q j → σ q j = σ q j := fun _ _ _ => rfl
  refine f_ite hf (fun hf => ?_) (fun hf => ?_)
  · refine f_mem hf (fun q j hq => (mup_ne (by unfold T_X12_seed at hq; omega)).trans (hs q j hq)) (fun σ1 hs hf => ?_)
    refine f_gd hf (fun hf => ?_)
    cases hf
    exact hs
  · refine f_mob hf (fun r2 σ3 h1 hf => ?_)
    have hs := fun q j hq => (f_X12_refuses h1 q j (by unfold T_X12_seed at hq; unfold T_X12_refuses; omega)).trans (hs q j hq)
    refine f_ite hf (fun hf => ?_) (fun hf => ?_)
    · exact fun q j hq => (f_X12_seed_b17 hf q j hq).trans (hs q j hq)
    · exact fun q j hq => (f_X12_seed_b17 hf q j hq).trans (hs q j hq)
def T_X12_kept  (q j : Nat) : Prop := False
theorem f_X12_kept_b39 {F : Nat}  {r : Int} {σ' : mMem}   {t0 : Int} {σ : mMem} (hf : g_X12_kept_b39 F t0 σ = some (r, σ')) : ∀ q j, ¬ T_X12_kept  q j → σ' q j = σ q j := by
  unfold g_X12_kept_b39 at hf
  have hs : ∀ q j, ¬ T_X12_kept  q j → σ q j = σ q j := fun _ _ _ => rfl
  cases hf
  exact hs
theorem f_X12_kept_b38 {F : Nat}  {r : Int} {σ' : mMem}   {σ : mMem} (hf : g_X12_kept_b38 F  σ = some (r, σ')) : ∀ q j, ¬ T_X12_kept  q j → σ' q j = σ q j := by
  unfold g_X12_kept_b38 at hf
  have hs : ∀ q j, ¬ T_X12_kept  q j → σ q j = σ q j := fun _ _ _ => rfl
  exact fun q j hq => (f_X12_kept_b39 hf q j hq).trans (hs q j hq)
theorem f_X12_kept {F : Nat}  {r : Int} {σ' : mMem} {x1 x2 : Int} {σ : mMem} (hf : g_X12_kept F x1 x2 σ = some (r, σ')) : ∀ q j, ¬ T_X12_kept  q j → σ' q j = σ q j := by
  unfold g_X12_kept at hf
  have hs : ∀ q j, ¬ T_X12_kept  q j → σ q j = σ q j := fun _ _ _ => rfl
  refine f_gd hf (fun hf => ?_)
  refine f_mob hf (fun r1 σ2 h1 hf => ?_)
  have hs := fun q j hq => (f_X12_is h1 q j (by unfold T_X12_is; exact id)).trans (hs q j hq)
  refine f_ite hf (fun hf => ?_) (fun hf => ?_)
  · exact fun q j hq => (f_X12_kept_b38 hf q j hq).trans (hs q j hq)
  · refine f_mob hf (fun r3 σ4 h1 hf => ?_)
    have hs := fun q j hq => (f_X12_is h1 q j (by unfold T_X12_is; exact id)).trans (hs q j hq)
    refine f_ite hf (fun hf => ?_) (fun hf => ?_)
    · exact fun q j hq => (f_X12_kept_b38 hf q j hq).trans (hs q j hq)
    · refine f_gd hf (fun hf => ?_)
      exact fun q j hq => (f_X12_kept_b39 hf q j hq).trans (hs q j hq)
def T_X12_writes  (q j : Nat) : Prop := (q = 86 ∧ (j = 71)) ∨ q = 125
theorem f_X12_writes {F : Nat}  {r : Int} {σ' : mMem} {x1 : Int} {σ : mMem} (hf : g_X12_writes F x1 σ = some (r, σ')) : ∀ q j, ¬ T_X12_writes  q j → σ' q j = σ q j := by
  unfold g_X12_writes at hf
  have hs : ∀ q j, ¬ T_X12_writes  q j → σ q j = σ q j := fun _ _ _ => rfl
  refine f_gd hf (fun hf => ?_)
  refine f_mem hf (fun q j hq => (mup_ne (by unfold T_X12_writes at hq; omega)).trans (hs q j hq)) (fun σ1 hs hf => ?_)
  refine f_mem hf (fun q j hq => (mup_ne (by unfold T_X12_writes at hq; omega)).trans (hs q j hq)) (fun σ2 hs hf => ?_)
  cases hf
  exact hs
def T_X12_writesTwo  (q j : Nat) : Prop := (q = 86 ∧ (j = 71)) ∨ q = 125
theorem f_X12_writesTwo {F : Nat}  {r : Int} {σ' : mMem} {x1 : Int} {σ : mMem} (hf : g_X12_writesTwo F x1 σ = some (r, σ')) : ∀ q j, ¬ T_X12_writesTwo  q j → σ' q j = σ q j := by
  unfold g_X12_writesTwo at hf
  have hs : ∀ q j, ¬ T_X12_writesTwo  q j → σ q j = σ q j := fun _ _ _ => rfl
  refine f_mob hf (fun r1 σ2 h1 hf => ?_)
  have hs := fun q j hq => (f_X12_writes h1 q j (by unfold T_X12_writesTwo at hq; unfold T_X12_writes; omega)).trans (hs q j hq)
  refine f_mob hf (fun r3 σ4 h1 hf => ?_)
  have hs := fun q j hq => (f_X12_writes h1 q j (by unfold T_X12_writesTwo at hq; unfold T_X12_writes; omega)).trans (hs q j hq)
  cases hf
  exact hs
def T_X12_image  (q j : Nat) : Prop := (q = 86 ∧ (j = 71)) ∨ q = 125
theorem f_X12_image_h118 {F : Nat}  {r : Int} {σ' : mMem}   (n : Nat) : ∀ {x1 x2 : Int} {σ : mMem} (_ : g_X12_image_h118 F n x1 x2 σ = some (r, σ')), ∀ q j, ¬ T_X12_image  q j → σ' q j = σ q j := by
  induction n with
  | zero =>
    intro x1 x2 σ hf
    unfold g_X12_image_h118 at hf
    cases hf
  | succ n ih =>
    have hk118 : ∀ (x1 x2 : Int) (σ : mMem), g_X12_image_h118 F n x1 x2 σ = some (r, σ') → ∀ q j, ¬ T_X12_image  q j → σ' q j = σ q j := fun x1 x2 σ hf => ih hf
    intro x1 x2 σ hf
    unfold g_X12_image_h118 at hf
    have hs : ∀ q j, ¬ T_X12_image  q j → σ q j = σ q j := fun _ _ _ => rfl
    refine f_ite hf (fun hf => ?_) (fun hf => ?_)
    · refine f_mob hf (fun r218 σ219 h1 hf => ?_)
      have hs := fun q j hq => (f_X12_writes h1 q j (by unfold T_X12_image at hq; unfold T_X12_writes; omega)).trans (hs q j hq)
      cases hf
      exact hs
    · refine f_gd hf (fun hf => ?_)
      refine f_dv hf (fun hf => ?_)
      refine f_let hf (fun y220 hf => ?_)
      exact fun q j hq => (hk118 _ _ _ hf q j hq).trans (hs q j hq)
theorem f_X12_image_h27 {F : Nat}  {r : Int} {σ' : mMem}   (n : Nat) : ∀ {x1 : Int} {σ : mMem} (_ : g_X12_image_h27 F n x1 σ = some (r, σ')), ∀ q j, ¬ T_X12_image  q j → σ' q j = σ q j := by
  induction n with
  | zero =>
    intro x1 σ hf
    unfold g_X12_image_h27 at hf
    cases hf
  | succ n ih =>
    have hk27 : ∀ (x1 : Int) (σ : mMem), g_X12_image_h27 F n x1 σ = some (r, σ') → ∀ q j, ¬ T_X12_image  q j → σ' q j = σ q j := fun x1 σ hf => ih hf
    intro x1 σ hf
    unfold g_X12_image_h27 at hf
    have hs : ∀ q j, ¬ T_X12_image  q j → σ q j = σ q j := fun _ _ _ => rfl
    refine f_gd hf (fun hf => ?_)
    refine f_ite hf (fun hf => ?_) (fun hf => ?_)
    · exact fun q j hq => (f_X12_image_h118 _ hf q j hq).trans (hs q j hq)
    · refine f_gd hf (fun hf => ?_)
      refine f_dv hf (fun hf => ?_)
      refine f_mob hf (fun r106 σ107 h1 hf => ?_)
      have hs := fun q j hq => (f_X12_writes h1 q j (by unfold T_X12_image at hq; unfold T_X12_writes; omega)).trans (hs q j hq)
      refine f_gd hf (fun hf => ?_)
      refine f_dv hf (fun hf => ?_)
      refine f_mob hf (fun r108 σ109 h1 hf => ?_)
      have hs := fun q j hq => (f_X12_writes h1 q j (by unfold T_X12_image at hq; unfold T_X12_writes; omega)).trans (hs q j hq)
      refine f_gd hf (fun hf => ?_)
      refine f_mob hf (fun r110 σ111 h1 hf => ?_)
      have hs := fun q j hq => (f_X12_writes h1 q j (by unfold T_X12_image at hq; unfold T_X12_writes; omega)).trans (hs q j hq)
      refine f_gd hf (fun hf => ?_)
      refine f_mob hf (fun r112 σ113 h1 hf => ?_)
      have hs := fun q j hq => (f_X12_writesTwo h1 q j (by unfold T_X12_image at hq; unfold T_X12_writesTwo; omega)).trans (hs q j hq)
      refine f_gd hf (fun hf => ?_)
      refine f_mob hf (fun r114 σ115 h1 hf => ?_)
      have hs := fun q j hq => (f_X12_writes h1 q j (by unfold T_X12_image at hq; unfold T_X12_writes; omega)).trans (hs q j hq)
      refine f_gd hf (fun hf => ?_)
      refine f_mob hf (fun r116 σ117 h1 hf => ?_)
      have hs := fun q j hq => (f_X12_writesTwo h1 q j (by unfold T_X12_image at hq; unfold T_X12_writesTwo; omega)).trans (hs q j hq)
      exact fun q j hq => (hk27 _ _ hf q j hq).trans (hs q j hq)
theorem f_X12_image {F : Nat}  {r : Int} {σ' : mMem} {σ : mMem} (hf : g_X12_image F σ = some (r, σ')) : ∀ q j, ¬ T_X12_image  q j → σ' q j = σ q j := by
  unfold g_X12_image at hf
  have hs : ∀ q j, ¬ T_X12_image  q j → σ q j = σ q j := fun _ _ _ => rfl
  refine f_mem hf (fun q j hq => (mup_ne (by unfold T_X12_image at hq; omega)).trans (hs q j hq)) (fun σ1 hs hf => ?_)
  refine f_gd hf (fun hf => ?_)
  refine f_mob hf (fun r2 σ3 h1 hf => ?_)
  have hs := fun q j hq => (f_X12_writesTwo h1 q j (by unfold T_X12_image at hq; unfold T_X12_writesTwo; omega)).trans (hs q j hq)
  refine f_gd hf (fun hf => ?_)
  refine f_mob hf (fun r4 σ5 h1 hf => ?_)
  have hs := fun q j hq => (f_X12_writes h1 q j (by unfold T_X12_image at hq; unfold T_X12_writes; omega)).trans (hs q j hq)
  exact fun q j hq => (f_X12_image_h27 _ hf q j hq).trans (hs q j hq)
def T_X12_octet  (q j : Nat) : Prop := False
theorem f_X12_octet_b24 {F : Nat}  {r : Int} {σ' : mMem}   {t0 : Int} {σ : mMem} (hf : g_X12_octet_b24 F t0 σ = some (r, σ')) : ∀ q j, ¬ T_X12_octet  q j → σ' q j = σ q j := by
  unfold g_X12_octet_b24 at hf
  have hs : ∀ q j, ¬ T_X12_octet  q j → σ q j = σ q j := fun _ _ _ => rfl
  cases hf
  exact hs
theorem f_X12_octet {F : Nat}  {r : Int} {σ' : mMem} {x1 : Int} {σ : mMem} (hf : g_X12_octet F x1 σ = some (r, σ')) : ∀ q j, ¬ T_X12_octet  q j → σ' q j = σ q j := by
  unfold g_X12_octet at hf
  have hs : ∀ q j, ¬ T_X12_octet  q j → σ q j = σ q j := fun _ _ _ => rfl
  refine f_mob hf (fun r1 σ2 h1 hf => ?_)
  have hs := fun q j hq => (f_X12_is h1 q j (by unfold T_X12_is; exact id)).trans (hs q j hq)
  refine f_ite hf (fun hf => ?_) (fun hf => ?_)
  · exact fun q j hq => (f_X12_octet_b24 hf q j hq).trans (hs q j hq)
  · refine f_gd hf (fun hf => ?_)
    exact fun q j hq => (f_X12_octet_b24 hf q j hq).trans (hs q j hq)
def T_X12_twoBytes  (q j : Nat) : Prop := False
theorem f_X12_twoBytes {F : Nat}  {r : Int} {σ' : mMem} {x1 : Int} {σ : mMem} (hf : g_X12_twoBytes F x1 σ = some (r, σ')) : ∀ q j, ¬ T_X12_twoBytes  q j → σ' q j = σ q j := by
  unfold g_X12_twoBytes at hf
  have hs : ∀ q j, ¬ T_X12_twoBytes  q j → σ q j = σ q j := fun _ _ _ => rfl
  refine f_gd hf (fun hf => ?_)
  refine f_gd hf (fun hf => ?_)
  cases hf
  exact hs
def T_X12_boxOn  (q j : Nat) : Prop := q = 112 ∨ q = 113 ∨ q = 114 ∨ q = 115 ∨ q = 116
theorem f_X12_boxOn_b193 {F : Nat}  {r : Int} {σ' : mMem}   {t0 : Int} {σ : mMem} (hf : g_X12_boxOn_b193 F t0 σ = some (r, σ')) : ∀ q j, ¬ T_X12_boxOn  q j → σ' q j = σ q j := by
  unfold g_X12_boxOn_b193 at hf
  have hs : ∀ q j, ¬ T_X12_boxOn  q j → σ q j = σ q j := fun _ _ _ => rfl
  refine f_gd hf (fun hf => ?_)
  cases hf
  exact hs
theorem f_X12_boxOn_b192 {F : Nat}  {r : Int} {σ' : mMem}   {σ : mMem} (hf : g_X12_boxOn_b192 F  σ = some (r, σ')) : ∀ q j, ¬ T_X12_boxOn  q j → σ' q j = σ q j := by
  unfold g_X12_boxOn_b192 at hf
  have hs : ∀ q j, ¬ T_X12_boxOn  q j → σ q j = σ q j := fun _ _ _ => rfl
  exact fun q j hq => (f_X12_boxOn_b193 hf q j hq).trans (hs q j hq)
theorem f_X12_boxOn_h110 {F : Nat}  {r : Int} {σ' : mMem}   (n : Nat) : ∀ {x1 x3 x4 : Int} {σ : mMem} (_ : g_X12_boxOn_h110 F n x1 x3 x4 σ = some (r, σ')), ∀ q j, ¬ T_X12_boxOn  q j → σ' q j = σ q j := by
  induction n with
  | zero =>
    intro x1 x3 x4 σ hf
    unfold g_X12_boxOn_h110 at hf
    cases hf
  | succ n ih =>
    have hk110 : ∀ (x1 x3 x4 : Int) (σ : mMem), g_X12_boxOn_h110 F n x1 x3 x4 σ = some (r, σ') → ∀ q j, ¬ T_X12_boxOn  q j → σ' q j = σ q j := fun x1 x3 x4 σ hf => ih hf
    intro x1 x3 x4 σ hf
    unfold g_X12_boxOn_h110 at hf
    have hs : ∀ q j, ¬ T_X12_boxOn  q j → σ q j = σ q j := fun _ _ _ => rfl
    refine f_ite hf (fun hf => ?_) (fun hf => ?_)
    · refine f_gd hf (fun hf => ?_)
      refine f_ite hf (fun hf => ?_) (fun hf => ?_)
      · exact fun q j hq => (f_X12_boxOn_b192 hf q j hq).trans (hs q j hq)
      · refine f_gd hf (fun hf => ?_)
        refine f_ite hf (fun hf => ?_) (fun hf => ?_)
        · exact fun q j hq => (f_X12_boxOn_b192 hf q j hq).trans (hs q j hq)
        · refine f_gd hf (fun hf => ?_)
          refine f_ite hf (fun hf => ?_) (fun hf => ?_)
          · exact fun q j hq => (f_X12_boxOn_b192 hf q j hq).trans (hs q j hq)
          · refine f_gd hf (fun hf => ?_)
            refine f_ite hf (fun hf => ?_) (fun hf => ?_)
            · exact fun q j hq => (f_X12_boxOn_b192 hf q j hq).trans (hs q j hq)
            · exact fun q j hq => (f_X12_boxOn_b193 hf q j hq).trans (hs q j hq)
    · refine f_gd hf (fun hf => ?_)
      refine f_gd hf (fun hf => ?_)
      refine f_ite hf (fun hf => ?_) (fun hf => ?_)
      · exact fun q j hq => (hk110 _ _ _ _ hf q j hq).trans (hs q j hq)
      · refine f_gd hf (fun hf => ?_)
        cases hf
        exact hs
theorem f_X12_boxOn {F : Nat}  {r : Int} {σ' : mMem} {x1 x2 : Int} {σ : mMem} (hf : g_X12_boxOn F x1 x2 σ = some (r, σ')) : ∀ q j, ¬ T_X12_boxOn  q j → σ' q j = σ q j := by
  unfold g_X12_boxOn at hf
  have hs : ∀ q j, ¬ T_X12_boxOn  q j → σ q j = σ q j := fun _ _ _ => rfl
  refine f_let hf (fun y1 hf => ?_)
  refine f_gd hf (fun hf => ?_)
  refine f_gd hf (fun hf => ?_)
  refine f_mob hf (fun r2 σ3 h1 hf => ?_)
  have hs := fun q j hq => (f_X12_isOn h1 q j (by unfold T_X12_isOn; exact id)).trans (hs q j hq)
  refine f_ite hf (fun hf => ?_) (fun hf => ?_)
  · refine f_gd hf (fun hf => ?_)
    refine f_gd hf (fun hf => ?_)
    refine f_gd hf (fun hf => ?_)
    refine f_mem hf (fun q j hq => (mup_ne (by unfold T_X12_boxOn at hq; omega)).trans (hs q j hq)) (fun σ4 hs hf => ?_)
    refine f_gd hf (fun hf => ?_)
    refine f_gd hf (fun hf => ?_)
    refine f_mem hf (fun q j hq => (mup_ne (by unfold T_X12_boxOn at hq; omega)).trans (hs q j hq)) (fun σ5 hs hf => ?_)
    refine f_mob hf (fun r6 σ7 h1 hf => ?_)
    have hs := fun q j hq => (f_X12_twoBytes h1 q j (by unfold T_X12_twoBytes; exact id)).trans (hs q j hq)
    refine f_gd hf (fun hf => ?_)
    refine f_mem hf (fun q j hq => (mup_ne (by unfold T_X12_boxOn at hq; omega)).trans (hs q j hq)) (fun σ8 hs hf => ?_)
    refine f_gd hf (fun hf => ?_)
    refine f_gd hf (fun hf => ?_)
    refine f_mem hf (fun q j hq => (mup_ne (by unfold T_X12_boxOn at hq; omega)).trans (hs q j hq)) (fun σ9 hs hf => ?_)
    refine f_mob hf (fun r10 σ11 h1 hf => ?_)
    have hs := fun q j hq => (f_X12_twoBytes h1 q j (by unfold T_X12_twoBytes; exact id)).trans (hs q j hq)
    refine f_gd hf (fun hf => ?_)
    refine f_mem hf (fun q j hq => (mup_ne (by unfold T_X12_boxOn at hq; omega)).trans (hs q j hq)) (fun σ12 hs hf => ?_)
    exact fun q j hq => (f_X12_boxOn_h110 _ hf q j hq).trans (hs q j hq)
  · refine f_gd hf (fun hf => ?_)
    cases hf
    exact hs
def T_X12_comesOn  (q j : Nat) : Prop := q = 110 ∨ q = 111 ∨ q = 112 ∨ q = 113 ∨ q = 114 ∨ q = 115 ∨ q = 116 ∨ q = 117 ∨ q = 118
theorem f_X12_comesOn_b40 {F : Nat}  {r : Int} {σ' : mMem}   {σ : mMem} (hf : g_X12_comesOn_b40 F  σ = some (r, σ')) : ∀ q j, ¬ T_X12_comesOn  q j → σ' q j = σ q j := by
  unfold g_X12_comesOn_b40 at hf
  have hs : ∀ q j, ¬ T_X12_comesOn  q j → σ q j = σ q j := fun _ _ _ => rfl
  refine f_gd hf (fun hf => ?_)
  cases hf
  exact hs
theorem f_X12_comesOn_h128 {F : Nat}  {r : Int} {σ' : mMem}   (n : Nat) : ∀ {x3 : Int} {σ : mMem} (_ : g_X12_comesOn_h128 F n x3 σ = some (r, σ')), ∀ q j, ¬ T_X12_comesOn  q j → σ' q j = σ q j := by
  induction n with
  | zero =>
    intro x3 σ hf
    unfold g_X12_comesOn_h128 at hf
    cases hf
  | succ n ih =>
    have hk128 : ∀ (x3 : Int) (σ : mMem), g_X12_comesOn_h128 F n x3 σ = some (r, σ') → ∀ q j, ¬ T_X12_comesOn  q j → σ' q j = σ q j := fun x3 σ hf => ih hf
    intro x3 σ hf
    unfold g_X12_comesOn_h128 at hf
    have hs : ∀ q j, ¬ T_X12_comesOn  q j → σ q j = σ q j := fun _ _ _ => rfl
    refine f_gd hf (fun hf => ?_)
    refine f_ite hf (fun hf => ?_) (fun hf => ?_)
    · refine f_gd hf (fun hf => ?_)
      cases hf
      exact hs
    · refine f_mob hf (fun r311 σ312 h1 hf => ?_)
      have hs := fun q j hq => (f_X12_boxOn h1 q j (by unfold T_X12_comesOn at hq; unfold T_X12_boxOn; omega)).trans (hs q j hq)
      refine f_ite hf (fun hf => ?_) (fun hf => ?_)
      · exact fun q j hq => (hk128 _ _ hf q j hq).trans (hs q j hq)
      · refine f_gd hf (fun hf => ?_)
        cases hf
        exact hs
theorem f_X12_comesOn_h48 {F : Nat}  {r : Int} {σ' : mMem}   (n : Nat) : ∀ {x1 x2 x3 : Int} {σ : mMem} (_ : g_X12_comesOn_h48 F n x1 x2 x3 σ = some (r, σ')), ∀ q j, ¬ T_X12_comesOn  q j → σ' q j = σ q j := by
  induction n with
  | zero =>
    intro x1 x2 x3 σ hf
    unfold g_X12_comesOn_h48 at hf
    cases hf
  | succ n ih =>
    have hk48 : ∀ (x1 x2 x3 : Int) (σ : mMem), g_X12_comesOn_h48 F n x1 x2 x3 σ = some (r, σ') → ∀ q j, ¬ T_X12_comesOn  q j → σ' q j = σ q j := fun x1 x2 x3 σ hf => ih hf
    intro x1 x2 x3 σ hf
    unfold g_X12_comesOn_h48 at hf
    have hs : ∀ q j, ¬ T_X12_comesOn  q j → σ q j = σ q j := fun _ _ _ => rfl
    refine f_ite hf (fun hf => ?_) (fun hf => ?_)
    · refine f_gd hf (fun hf => ?_)
      refine f_ite hf (fun hf => ?_) (fun hf => ?_)
      · refine f_mob hf (fun r203 σ204 h1 hf => ?_)
        have hs := fun q j hq => (f_X12_copies h1 q j (by unfold T_X12_comesOn at hq; unfold T_X12_copies; omega)).trans (hs q j hq)
        refine f_mob hf (fun r205 σ206 h1 hf => ?_)
        have hs := fun q j hq => (f_X12_twoBytes h1 q j (by unfold T_X12_twoBytes; exact id)).trans (hs q j hq)
        refine f_gd hf (fun hf => ?_)
        refine f_mem hf (fun q j hq => (mup_ne (by unfold T_X12_comesOn at hq; omega)).trans (hs q j hq)) (fun σ207 hs hf => ?_)
        refine f_gd hf (fun hf => ?_)
        refine f_gd hf (fun hf => ?_)
        refine f_mem hf (fun q j hq => (mup_ne (by unfold T_X12_comesOn at hq; omega)).trans (hs q j hq)) (fun σ208 hs hf => ?_)
        refine f_gd hf (fun hf => ?_)
        refine f_mem hf (fun q j hq => (mup_ne (by unfold T_X12_comesOn at hq; omega)).trans (hs q j hq)) (fun σ209 hs hf => ?_)
        exact fun q j hq => (f_X12_comesOn_h128 _ hf q j hq).trans (hs q j hq)
      · refine f_gd hf (fun hf => ?_)
        cases hf
        exact hs
    · refine f_gd hf (fun hf => ?_)
      refine f_dv hf (fun hf => ?_)
      refine f_let hf (fun y210 hf => ?_)
      exact fun q j hq => (hk48 _ _ _ _ hf q j hq).trans (hs q j hq)
theorem f_X12_comesOn {F : Nat}  {r : Int} {σ' : mMem} {x1 : Int} {σ : mMem} (hf : g_X12_comesOn F x1 σ = some (r, σ')) : ∀ q j, ¬ T_X12_comesOn  q j → σ' q j = σ q j := by
  unfold g_X12_comesOn at hf
  have hs : ∀ q j, ¬ T_X12_comesOn  q j → σ q j = σ q j := fun _ _ _ => rfl
  refine f_gd hf (fun hf => ?_)
  refine f_ite hf (fun hf => ?_) (fun hf => ?_)
  · exact fun q j hq => (f_X12_comesOn_b40 hf q j hq).trans (hs q j hq)
  · refine f_mob hf (fun r1 σ2 h1 hf => ?_)
    have hs := fun q j hq => (f_X12_twoBytes h1 q j (by unfold T_X12_twoBytes; exact id)).trans (hs q j hq)
    refine f_ite hf (fun hf => ?_) (fun hf => ?_)
    · exact fun q j hq => (f_X12_comesOn_b40 hf q j hq).trans (hs q j hq)
    · refine f_gd hf (fun hf => ?_)
      refine f_ite hf (fun hf => ?_) (fun hf => ?_)
      · exact fun q j hq => (f_X12_comesOn_h48 _ hf q j hq).trans (hs q j hq)
      · exact fun q j hq => (f_X12_comesOn_b40 hf q j hq).trans (hs q j hq)
def T_X12_on_  (q j : Nat) : Prop := (q = 86 ∧ (j = 1 ∨ j = 53)) ∨ q = 109 ∨ q = 110 ∨ q = 111 ∨ q = 112 ∨ q = 113 ∨ q = 114 ∨ q = 115 ∨ q = 116 ∨ q = 117 ∨ q = 118
theorem f_X12_on__b31 {F : Nat}  {r : Int} {σ' : mMem}   {t0 : Int} {σ : mMem} (hf : g_X12_on__b31 F t0 σ = some (r, σ')) : ∀ q j, ¬ T_X12_on_  q j → σ' q j = σ q j := by
  unfold g_X12_on__b31 at hf
  have hs : ∀ q j, ¬ T_X12_on_  q j → σ q j = σ q j := fun _ _ _ => rfl
  refine f_gd hf (fun hf => ?_)
  cases hf
  exact hs
theorem f_X12_on_ {F : Nat}  {r : Int} {σ' : mMem} {σ : mMem} (hf : g_X12_on_ F σ = some (r, σ')) : ∀ q j, ¬ T_X12_on_  q j → σ' q j = σ q j := by
  unfold g_X12_on_ at hf
  have hs : ∀ q j, ¬ T_X12_on_  q j → σ q j = σ q j := fun _ _ _ => rfl
  refine f_let hf (fun y1 hf => ?_)
  refine f_mem hf (fun q j hq => (mup_ne (by unfold T_X12_on_ at hq; omega)).trans (hs q j hq)) (fun σ2 hs hf => ?_)
  refine f_mob hf (fun r3 σ4 h1 hf => ?_)
  have hs := fun q j hq => (f_X12_comesOn h1 q j (by unfold T_X12_on_ at hq; unfold T_X12_comesOn; omega)).trans (hs q j hq)
  refine f_ite hf (fun hf => ?_) (fun hf => ?_)
  · refine f_mob hf (fun r5 σ6 h1 hf => ?_)
    have hs := fun q j hq => (f_X12_copies h1 q j (by unfold T_X12_on_ at hq; unfold T_X12_copies; omega)).trans (hs q j hq)
    refine f_mem hf (fun q j hq => (mup_ne (by unfold T_X12_on_ at hq; omega)).trans (hs q j hq)) (fun σ7 hs hf => ?_)
    refine f_gd hf (fun hf => ?_)
    cases hf
    exact hs
  · refine f_mob hf (fun r8 σ9 h1 hf => ?_)
    have hs := fun q j hq => (f_X12_refuses h1 q j (by unfold T_X12_on_ at hq; unfold T_X12_refuses; omega)).trans (hs q j hq)
    refine f_ite hf (fun hf => ?_) (fun hf => ?_)
    · exact fun q j hq => (f_X12_on__b31 hf q j hq).trans (hs q j hq)
    · exact fun q j hq => (f_X12_on__b31 hf q j hq).trans (hs q j hq)
