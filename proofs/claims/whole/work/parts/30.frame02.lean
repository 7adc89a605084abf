def T_X11_found  (q j : Nat) : Prop := (q = 26 ∧ (j = 3)) ∨ q = 27 ∨ q = 28
theorem f_X11_found_b27 {F : Nat}  {r : Int} {σ' : mMem}   {t0 : Int} {σ : mMem} (hf : g_X11_found_b27 F t0 σ = some (r, σ')) : ∀ q j, ¬ T_X11_found  q j → σ' q j = σ q j := by
  unfold g_X11_found_b27 at hf
  have hs : ∀ q j, ¬ T_X11_found  q j → σ q j = σ q j := fun _ _ _ => rfl
  cases hf
  exact hs
theorem f_X11_found {F : Nat}  {r : Int} {σ' : mMem} {x1 : Int} {σ : mMem} (hf : g_X11_found F x1 σ = some (r, σ')) : ∀ q j, ¬ T_X11_found  q j → σ' q j = σ q j := by
  unfold g_X11_found at hf
  have hs : ∀ q j, ¬ T_X11_found  q j → σ q j = σ q j := fun _ _ _ => rfl
  refine f_gp hf (fun hg1 hf => ?_)
  refine f_mob hf (fun r2 σ3 h1 hf => ?_)
  have hs := fun q j hq => (f_X5_hasBox h1 q j (by unfold T_X5_hasBox; exact id)).trans (hs q j hq)
  refine f_ite hf (fun hf => ?_) (fun hf => ?_)
  · exact fun q j hq => (f_X11_found_b27 hf q j hq).trans (hs q j hq)
  · refine f_mob hf (fun r4 σ5 h1 hf => ?_)
    have hs := fun q j hq => (f_X0_fewestMoves h1 q j (by unfold T_X11_found at hq; unfold T_X0_fewestMoves; omega)).trans (hs q j hq)
    exact fun q j hq => (f_X11_found_b27 hf q j hq).trans (hs q j hq)
def T_X11_spaced  (q j : Nat) : Prop := (q = 29 ∧ (j = 3 ∨ j = 4 ∨ j = 5 ∨ j = 6 ∨ j = 7)) ∨ q = 30 ∨ q = 31 ∨ q = 33 ∨ q = 34
theorem f_X11_spaced_b30 {F : Nat}  {r : Int} {σ' : mMem}   {t0 : Int} {σ : mMem} (hf : g_X11_spaced_b30 F t0 σ = some (r, σ')) : ∀ q j, ¬ T_X11_spaced  q j → σ' q j = σ q j := by
  unfold g_X11_spaced_b30 at hf
  have hs : ∀ q j, ¬ T_X11_spaced  q j → σ q j = σ q j := fun _ _ _ => rfl
  cases hf
  exact hs
theorem f_X11_spaced {F : Nat}  {r : Int} {σ' : mMem} {x1 : Int} {σ : mMem} (hf : g_X11_spaced F x1 σ = some (r, σ')) : ∀ q j, ¬ T_X11_spaced  q j → σ' q j = σ q j := by
  unfold g_X11_spaced at hf
  have hs : ∀ q j, ¬ T_X11_spaced  q j → σ q j = σ q j := fun _ _ _ => rfl
  refine f_mob hf (fun r1 σ2 h1 hf => ?_)
  have hs := fun q j hq => (f_X10_mayPass h1 q j (by unfold T_X10_mayPass; exact id)).trans (hs q j hq)
  refine f_ite hf (fun hf => ?_) (fun hf => ?_)
  · exact fun q j hq => (f_X11_spaced_b30 hf q j hq).trans (hs q j hq)
  · refine f_mob hf (fun r3 σ4 h1 hf => ?_)
    have hs := fun q j hq => (f_X0_leastDelay h1 q j (by unfold T_X11_spaced at hq; unfold T_X0_leastDelay; omega)).trans (hs q j hq)
    exact fun q j hq => (f_X11_spaced_b30 hf q j hq).trans (hs q j hq)
def T_X11_bright  (q j : Nat) : Prop := (q = 29 ∧ (j = 3 ∨ j = 4 ∨ j = 5 ∨ j = 6 ∨ j = 7)) ∨ q = 30 ∨ q = 31 ∨ q = 33 ∨ q = 34
theorem f_X11_bright_b30 {F : Nat}  {r : Int} {σ' : mMem}   {t0 : Int} {σ : mMem} (hf : g_X11_bright_b30 F t0 σ = some (r, σ')) : ∀ q j, ¬ T_X11_bright  q j → σ' q j = σ q j := by
  unfold g_X11_bright_b30 at hf
  have hs : ∀ q j, ¬ T_X11_bright  q j → σ q j = σ q j := fun _ _ _ => rfl
  cases hf
  exact hs
theorem f_X11_bright {F : Nat}  {r : Int} {σ' : mMem} {x1 : Int} {σ : mMem} (hf : g_X11_bright F x1 σ = some (r, σ')) : ∀ q j, ¬ T_X11_bright  q j → σ' q j = σ q j := by
  unfold g_X11_bright at hf
  have hs : ∀ q j, ¬ T_X11_bright  q j → σ q j = σ q j := fun _ _ _ => rfl
  refine f_mob hf (fun r1 σ2 h1 hf => ?_)
  have hs := fun q j hq => (f_X10_mayPass h1 q j (by unfold T_X10_mayPass; exact id)).trans (hs q j hq)
  refine f_ite hf (fun hf => ?_) (fun hf => ?_)
  · exact fun q j hq => (f_X11_bright_b30 hf q j hq).trans (hs q j hq)
  · refine f_mob hf (fun r3 σ4 h1 hf => ?_)
    have hs := fun q j hq => (f_X0_brightestLamp h1 q j (by unfold T_X11_bright at hq; unfold T_X0_brightestLamp; omega)).trans (hs q j hq)
    exact fun q j hq => (f_X11_bright_b30 hf q j hq).trans (hs q j hq)
def T_X11_track  (q j : Nat) : Prop := (q = 1 ∧ (j = 1)) ∨ (q = 35 ∧ (j = 3)) ∨ q = 36 ∨ q = 85
theorem f_X11_track_b43 {F : Nat}  {r : Int} {σ' : mMem}   {t0 : Int} {σ : mMem} (hf : g_X11_track_b43 F t0 σ = some (r, σ')) : ∀ q j, ¬ T_X11_track  q j → σ' q j = σ q j := by
  unfold g_X11_track_b43 at hf
  have hs : ∀ q j, ¬ T_X11_track  q j → σ q j = σ q j := fun _ _ _ => rfl
  cases hf
  exact hs
theorem f_X11_track {F : Nat}  {r : Int} {σ' : mMem} {σ : mMem} (hf : g_X11_track F σ = some (r, σ')) : ∀ q j, ¬ T_X11_track  q j → σ' q j = σ q j := by
  unfold g_X11_track at hf
  have hs : ∀ q j, ¬ T_X11_track  q j → σ q j = σ q j := fun _ _ _ => rfl
  refine f_gp hf (fun hg1 hf => ?_)
  refine f_mob hf (fun r2 σ3 h1 hf => ?_)
  have hs := fun q j hq => (f_X9_takeRows h1 q j (by unfold T_X11_track at hq; unfold T_X9_takeRows; omega)).trans (hs q j hq)
  refine f_mem hf (fun q j hq => (mup_ne (by unfold T_X11_track at hq; omega)).trans (hs q j hq)) (fun σ4 hs hf => ?_)
  refine f_ite hf (fun hf => ?_) (fun hf => ?_)
  · refine f_mob hf (fun r5 σ6 h1 hf => ?_)
    have hs := fun q j hq => (f_X11_refuse h1 q j (by unfold T_X11_track at hq; unfold T_X11_refuse; omega)).trans (hs q j hq)
    exact fun q j hq => (f_X11_track_b43 hf q j hq).trans (hs q j hq)
  · exact fun q j hq => (f_X11_track_b43 hf q j hq).trans (hs q j hq)
def T_X11_wheel  (q j : Nat) : Prop := q = 38 ∨ q = 39 ∨ q = 40 ∨ q = 41 ∨ q = 42 ∨ q = 43 ∨ q = 44 ∨ q = 45 ∨ q = 46 ∨ q = 47 ∨ (q = 48 ∧ (j = 3 ∨ j = 4 ∨ j = 5 ∨ j = 6 ∨ j = 7)) ∨ q = 49 ∨ q = 50 ∨ q = 52 ∨ q = 53
theorem f_X11_wheel_b51 {F : Nat}  {r : Int} {σ' : mMem}   {t0 : Int} {σ : mMem} (hf : g_X11_wheel_b51 F t0 σ = some (r, σ')) : ∀ q j, ¬ T_X11_wheel  q j → σ' q j = σ q j := by
  unfold g_X11_wheel_b51 at hf
  have hs : ∀ q j, ¬ T_X11_wheel  q j → σ q j = σ q j := fun _ _ _ => rfl
  cases hf
  exact hs
theorem f_X11_wheel {F : Nat}  {r : Int} {σ' : mMem} {x1 x2 : Int} {σ : mMem} (hf : g_X11_wheel F x1 x2 σ = some (r, σ')) : ∀ q j, ¬ T_X11_wheel  q j → σ' q j = σ q j := by
  unfold g_X11_wheel at hf
  have hs : ∀ q j, ¬ T_X11_wheel  q j → σ q j = σ q j := fun _ _ _ => rfl
  refine f_gp hf (fun hg1 hf => ?_)
  refine f_mob hf (fun r2 σ3 h1 hf => ?_)
  have hs := fun q j hq => (f_X5_hasBox h1 q j (by unfold T_X5_hasBox; exact id)).trans (hs q j hq)
  refine f_ite hf (fun hf => ?_) (fun hf => ?_)
  · refine f_ite hf (fun hf => ?_) (fun hf => ?_)
    · refine f_ite hf (fun hf => ?_) (fun hf => ?_)
      · exact fun q j hq => (f_X11_wheel_b51 hf q j hq).trans (hs q j hq)
      · refine f_mob hf (fun r4 σ5 h1 hf => ?_)
        have hs := fun q j hq => (f_X9_tellingSteps h1 q j (by unfold T_X11_wheel at hq; unfold T_X9_tellingSteps; omega)).trans (hs q j hq)
        exact fun q j hq => (f_X11_wheel_b51 hf q j hq).trans (hs q j hq)
    · refine f_mob hf (fun r6 σ7 h1 hf => ?_)
      have hs := fun q j hq => (f_X9_biasBits h1 q j (by unfold T_X11_wheel at hq; unfold T_X9_biasBits; omega)).trans (hs q j hq)
      cases hf
      exact hs
  · cases hf
    exact hs
def T_X11_passStep  (q j : Nat) : Prop := (q = 20 ∧ (j = 4 ∨ j = 6 ∨ j = 7)) ∨ q = 21 ∨ q = 22 ∨ q = 24 ∨ q = 25 ∨ (q = 54 ∧ (j = 2)) ∨ q = 76
theorem f_X11_passStep {F : Nat}  {r : Int} {σ' : mMem} {σ : mMem} (hf : g_X11_passStep F σ = some (r, σ')) : ∀ q j, ¬ T_X11_passStep  q j → σ' q j = σ q j := by
  unfold g_X11_passStep at hf
  have hs : ∀ q j, ¬ T_X11_passStep  q j → σ q j = σ q j := fun _ _ _ => rfl
  refine f_mob hf (fun r1 σ2 h1 hf => ?_)
  have hs := fun q j hq => (f_X10_pass h1 q j (by unfold T_X11_passStep at hq; unfold T_X10_pass; omega)).trans (hs q j hq)
  refine f_mob hf (fun r3 σ4 h1 hf => ?_)
  have hs := fun q j hq => (f_X3_keepStep h1 q j (by unfold T_X11_passStep at hq; unfold T_X3_keepStep; omega)).trans (hs q j hq)
  cases hf
  exact hs
def T_X11_steps  (q j : Nat) : Prop := (q = 20 ∧ (j = 4 ∨ j = 6 ∨ j = 7)) ∨ q = 21 ∨ q = 22 ∨ q = 24 ∨ q = 25 ∨ (q = 54 ∧ (j = 2 ∨ j = 3 ∨ j = 4)) ∨ q = 56 ∨ q = 57 ∨ q = 58 ∨ q = 59 ∨ q = 60 ∨ q = 61 ∨ q = 62 ∨ q = 63 ∨ q = 64 ∨ q = 65 ∨ q = 66 ∨ q = 67 ∨ q = 68 ∨ q = 69 ∨ q = 70 ∨ q = 71 ∨ q = 72 ∨ q = 73 ∨ q = 74 ∨ q = 75 ∨ q = 76 ∨ q = 85
theorem f_X11_steps_h35 {F : Nat}  {r : Int} {σ' : mMem}   (n : Nat) : ∀ {x1 x2 x3 : Int} {σ : mMem} (_ : g_X11_steps_h35 F n x1 x2 x3 σ = some (r, σ')), ∀ q j, ¬ T_X11_steps  q j → σ' q j = σ q j := by
  induction n with
  | zero =>
    intro x1 x2 x3 σ hf
    unfold g_X11_steps_h35 at hf
    cases hf
  | succ n ih =>
    have hk35 : ∀ (x1 x2 x3 : Int) (σ : mMem), g_X11_steps_h35 F n x1 x2 x3 σ = some (r, σ') → ∀ q j, ¬ T_X11_steps  q j → σ' q j = σ q j := fun x1 x2 x3 σ hf => ih hf
    intro x1 x2 x3 σ hf
    unfold g_X11_steps_h35 at hf
    have hs : ∀ q j, ¬ T_X11_steps  q j → σ q j = σ q j := fun _ _ _ => rfl
    refine f_ite hf (fun hf => ?_) (fun hf => ?_)
    · cases hf
      exact hs
    · refine f_mob hf (fun r107 σ108 h1 hf => ?_)
      have hs := fun q j hq => (f_X11_passStep h1 q j (by unfold T_X11_steps at hq; unfold T_X11_passStep; omega)).trans (hs q j hq)
      refine f_let hf (fun y109 hf => ?_)
      exact fun q j hq => (hk35 _ _ _ _ hf q j hq).trans (hs q j hq)
theorem f_X11_steps {F : Nat}  {r : Int} {σ' : mMem} {x1 : Int} {σ : mMem} (hf : g_X11_steps F x1 σ = some (r, σ')) : ∀ q j, ¬ T_X11_steps  q j → σ' q j = σ q j := by
  unfold g_X11_steps at hf
  have hs : ∀ q j, ¬ T_X11_steps  q j → σ q j = σ q j := fun _ _ _ => rfl
  refine f_mob hf (fun r1 σ2 h1 hf => ?_)
  have hs := fun q j hq => (f_X10_mayPass h1 q j (by unfold T_X10_mayPass; exact id)).trans (hs q j hq)
  refine f_ite hf (fun hf => ?_) (fun hf => ?_)
  · refine f_mob hf (fun r3 σ4 h1 hf => ?_)
    have hs := fun q j hq => (f_X3_remember h1 q j (by unfold T_X11_steps at hq; unfold T_X3_remember; omega)).trans (hs q j hq)
    exact fun q j hq => (f_X11_steps_h35 _ hf q j hq).trans (hs q j hq)
  · refine f_mob hf (fun r5 σ6 h1 hf => ?_)
    have hs := fun q j hq => (f_X11_refuse h1 q j (by unfold T_X11_steps at hq; unfold T_X11_refuse; omega)).trans (hs q j hq)
    cases hf
    exact hs
def T_X11_draw  (q j : Nat) : Prop := (q = 0 ∧ (j = 12))
theorem f_X11_draw_b41 {F : Nat}  {r : Int} {σ' : mMem}   {t0 : Int} {σ : mMem} (hf : g_X11_draw_b41 F t0 σ = some (r, σ')) : ∀ q j, ¬ T_X11_draw  q j → σ' q j = σ q j := by
  unfold g_X11_draw_b41 at hf
  have hs : ∀ q j, ¬ T_X11_draw  q j → σ q j = σ q j := fun _ _ _ => rfl
  cases hf
  exact hs
theorem f_X11_draw {F : Nat}  {r : Int} {σ' : mMem} {x1 : Int} {σ : mMem} (hf : g_X11_draw F x1 σ = some (r, σ')) : ∀ q j, ¬ T_X11_draw  q j → σ' q j = σ q j := by
  unfold g_X11_draw at hf
  have hs : ∀ q j, ¬ T_X11_draw  q j → σ q j = σ q j := fun _ _ _ => rfl
  refine f_dv hf (fun hf => ?_)
  refine f_let hf (fun y1 hf => ?_)
  refine f_mem hf (fun q j hq => (mup_ne (by unfold T_X11_draw at hq; omega)).trans (hs q j hq)) (fun σ2 hs hf => ?_)
  refine f_ite hf (fun hf => ?_) (fun hf => ?_)
  · exact fun q j hq => (f_X11_draw_b41 hf q j hq).trans (hs q j hq)
  · refine f_dv hf (fun hf => ?_)
    refine f_dv hf (fun hf => ?_)
    exact fun q j hq => (f_X11_draw_b41 hf q j hq).trans (hs q j hq)
def T_X11_letCatCome  (q j : Nat) : Prop := (q = 0 ∧ (j = 12)) ∨ q = 21
theorem f_X11_letCatCome_b26 {F : Nat}  {r : Int} {σ' : mMem}   {σ : mMem} (hf : g_X11_letCatCome_b26 F  σ = some (r, σ')) : ∀ q j, ¬ T_X11_letCatCome  q j → σ' q j = σ q j := by
  unfold g_X11_letCatCome_b26 at hf
  have hs : ∀ q j, ¬ T_X11_letCatCome  q j → σ q j = σ q j := fun _ _ _ => rfl
  refine f_gd hf (fun hf => ?_)
  cases hf
  exact hs
theorem f_X11_letCatCome {F : Nat}  {r : Int} {σ' : mMem} {σ : mMem} (hf : g_X11_letCatCome F σ = some (r, σ')) : ∀ q j, ¬ T_X11_letCatCome  q j → σ' q j = σ q j := by
  unfold g_X11_letCatCome at hf
  have hs : ∀ q j, ¬ T_X11_letCatCome  q j → σ q j = σ q j := fun _ _ _ => rfl
  refine f_mob hf (fun r1 σ2 h1 hf => ?_)
  have hs := fun q j hq => (f_X11_draw h1 q j (by unfold T_X11_letCatCome at hq; unfold T_X11_draw; omega)).trans (hs q j hq)
  refine f_gp hf (fun hg3 hf => ?_)
  refine f_ite hf (fun hf => ?_) (fun hf => ?_)
  · exact fun q j hq => (f_X11_letCatCome_b26 hf q j hq).trans (hs q j hq)
  · refine f_gp hf (fun hg4 hf => ?_)
    refine f_ite hf (fun hf => ?_) (fun hf => ?_)
    · refine f_gp hf (fun hg5 hf => ?_)
      refine f_mob hf (fun r6 σ7 h1 hf => ?_)
      have hs := fun q j hq => (f_X11_draw h1 q j (by unfold T_X11_letCatCome at hq; unfold T_X11_draw; omega)).trans (hs q j hq)
      refine f_mob hf (fun r8 σ9 h1 hf => ?_)
      have hs := fun q j hq => (f_X10_turnBy h1 q j (by unfold T_X11_letCatCome at hq; unfold T_X10_turnBy; omega)).trans (hs q j hq)
      refine f_gd hf (fun hf => ?_)
      cases hf
      exact hs
    · exact fun q j hq => (f_X11_letCatCome_b26 hf q j hq).trans (hs q j hq)
def T_X11_chance  (q j : Nat) : Prop := (q = 0 ∧ (j = 12)) ∨ (q = 20 ∧ (j = 4 ∨ j = 6 ∨ j = 7)) ∨ q = 21 ∨ q = 22 ∨ q = 24 ∨ q = 25 ∨ (q = 54 ∧ (j = 2 ∨ j = 3 ∨ j = 4)) ∨ q = 56 ∨ q = 57 ∨ q = 58 ∨ q = 59 ∨ q = 60 ∨ q = 61 ∨ q = 62 ∨ q = 63 ∨ q = 64 ∨ q = 65 ∨ q = 66 ∨ q = 67 ∨ q = 68 ∨ q = 69 ∨ q = 70 ∨ q = 71 ∨ q = 72 ∨ q = 73 ∨ q = 74 ∨ q = 75 ∨ q = 76 ∨ q = 85
theorem f_X11_chance_b53 {F : Nat}  {r : Int} {σ' : mMem} {k35 : Int → Int → Int → mMem → mRs} (hk35 : ∀ (x1 x2 x3 : Int) (σ : mMem), k35 x1 x2 x3 σ = some (r, σ') → ∀ q j, ¬ T_X11_chance  q j → σ' q j = σ q j) {x1 x3 t0 t1 : Int} {σ : mMem} (hf : g_X11_chance_b53 F k35 x1 x3 t0 t1 σ = some (r, σ')) : ∀ q j, ¬ T_X11_chance  q j → σ' q j = σ q j := by
  unfold g_X11_chance_b53 at hf
  have hs : ∀ q j, ¬ T_X11_chance  q j → σ q j = σ q j := fun _ _ _ => rfl
  refine f_let hf (fun y209 hf => ?_)
  refine f_mob hf (fun r210 σ211 h1 hf => ?_)
  have hs := fun q j hq => (f_X11_passStep h1 q j (by unfold T_X11_chance at hq; unfold T_X11_passStep; omega)).trans (hs q j hq)
  exact fun q j hq => (hk35 _ _ _ _ hf q j hq).trans (hs q j hq)
theorem f_X11_chance_h35 {F : Nat}  {r : Int} {σ' : mMem}   (n : Nat) : ∀ {x1 x2 x3 : Int} {σ : mMem} (_ : g_X11_chance_h35 F n x1 x2 x3 σ = some (r, σ')), ∀ q j, ¬ T_X11_chance  q j → σ' q j = σ q j := by
  induction n with
  | zero =>
    intro x1 x2 x3 σ hf
    unfold g_X11_chance_h35 at hf
    cases hf
  | succ n ih =>
    have hk35 : ∀ (x1 x2 x3 : Int) (σ : mMem), g_X11_chance_h35 F n x1 x2 x3 σ = some (r, σ') → ∀ q j, ¬ T_X11_chance  q j → σ' q j = σ q j := fun x1 x2 x3 σ hf => ih hf
    intro x1 x2 x3 σ hf
    unfold g_X11_chance_h35 at hf
    have hs : ∀ q j, ¬ T_X11_chance  q j → σ q j = σ q j := fun _ _ _ => rfl
    refine f_ite hf (fun hf => ?_) (fun hf => ?_)
    · cases hf
      exact hs
    · refine f_mob hf (fun r107 σ108 h1 hf => ?_)
      have hs := fun q j hq => (f_X11_letCatCome h1 q j (by unfold T_X11_chance at hq; unfold T_X11_letCatCome; omega)).trans (hs q j hq)
      refine f_ite hf (fun hf => ?_) (fun hf => ?_)
      · exact fun q j hq => (f_X11_chance_b53 hk35 hf q j hq).trans (hs q j hq)
      · exact fun q j hq => (f_X11_chance_b53 hk35 hf q j hq).trans (hs q j hq)
theorem f_X11_chance {F : Nat}  {r : Int} {σ' : mMem} {x1 : Int} {σ : mMem} (hf : g_X11_chance F x1 σ = some (r, σ')) : ∀ q j, ¬ T_X11_chance  q j → σ' q j = σ q j := by
  unfold g_X11_chance at hf
  have hs : ∀ q j, ¬ T_X11_chance  q j → σ q j = σ q j := fun _ _ _ => rfl
  refine f_mob hf (fun r1 σ2 h1 hf => ?_)
  have hs := fun q j hq => (f_X10_mayPass h1 q j (by unfold T_X10_mayPass; exact id)).trans (hs q j hq)
  refine f_ite hf (fun hf => ?_) (fun hf => ?_)
  · refine f_mob hf (fun r3 σ4 h1 hf => ?_)
    have hs := fun q j hq => (f_X3_remember h1 q j (by unfold T_X11_chance at hq; unfold T_X3_remember; omega)).trans (hs q j hq)
    exact fun q j hq => (f_X11_chance_h35 _ hf q j hq).trans (hs q j hq)
  · refine f_mob hf (fun r5 σ6 h1 hf => ?_)
    have hs := fun q j hq => (f_X11_refuse h1 q j (by unfold T_X11_chance at hq; unfold T_X11_refuse; omega)).trans (hs q j hq)
    cases hf
    exact hs
def T_X11_turn  (q j : Nat) : Prop := q = 21 ∨ (q = 54 ∧ (j = 3 ∨ j = 4)) ∨ q = 56 ∨ q = 57 ∨ q = 58 ∨ q = 59 ∨ q = 60 ∨ q = 61 ∨ q = 62 ∨ q = 63 ∨ q = 64 ∨ q = 65 ∨ q = 66 ∨ q = 67 ∨ q = 68 ∨ q = 69 ∨ q = 70 ∨ q = 71 ∨ q = 72 ∨ q = 73 ∨ q = 74 ∨ q = 75 ∨ q = 85
theorem f_X11_turn_b33 {F : Nat}  {r : Int} {σ' : mMem}   {σ : mMem} (hf : g_X11_turn_b33 F  σ = some (r, σ')) : ∀ q j, ¬ T_X11_turn  q j → σ' q j = σ q j := by
  unfold g_X11_turn_b33 at hf
  have hs : ∀ q j, ¬ T_X11_turn  q j → σ q j = σ q j := fun _ _ _ => rfl
  refine f_mob hf (fun r110 σ111 h1 hf => ?_)
  have hs := fun q j hq => (f_X11_refuse h1 q j (by unfold T_X11_turn at hq; unfold T_X11_refuse; omega)).trans (hs q j hq)
  refine f_gd hf (fun hf => ?_)
  cases hf
  exact hs
theorem f_X11_turn {F : Nat}  {r : Int} {σ' : mMem} {x1 x2 : Int} {σ : mMem} (hf : g_X11_turn F x1 x2 σ = some (r, σ')) : ∀ q j, ¬ T_X11_turn  q j → σ' q j = σ q j := by
  unfold g_X11_turn at hf
  have hs : ∀ q j, ¬ T_X11_turn  q j → σ q j = σ q j := fun _ _ _ => rfl
  refine f_gp hf (fun hg1 hf => ?_)
  refine f_mob hf (fun r2 σ3 h1 hf => ?_)
  have hs := fun q j hq => (f_X5_hasBox h1 q j (by unfold T_X5_hasBox; exact id)).trans (hs q j hq)
  refine f_ite hf (fun hf => ?_) (fun hf => ?_)
  · exact fun q j hq => (f_X11_turn_b33 hf q j hq).trans (hs q j hq)
  · refine f_ite hf (fun hf => ?_) (fun hf => ?_)
    · exact fun q j hq => (f_X11_turn_b33 hf q j hq).trans (hs q j hq)
    · refine f_ite hf (fun hf => ?_) (fun hf => ?_)
      · exact fun q j hq => (f_X11_turn_b33 hf q j hq).trans (hs q j hq)
      · refine f_mob hf (fun r4 σ5 h1 hf => ?_)
        have hs := fun q j hq => (f_X10_of h1 q j (by unfold T_X10_of; exact id)).trans (hs q j hq)
        refine f_ite hf (fun hf => ?_) (fun hf => ?_)
        · refine f_mob hf (fun r6 σ7 h1 hf => ?_)
          have hs := fun q j hq => (f_X3_remember h1 q j (by unfold T_X11_turn at hq; unfold T_X3_remember; omega)).trans (hs q j hq)
          refine f_mob hf (fun r8 σ9 h1 hf => ?_)
          have hs := fun q j hq => (f_X10_set h1 q j (by unfold T_X11_turn at hq; unfold T_X10_set; omega)).trans (hs q j hq)
          refine f_gd hf (fun hf => ?_)
          cases hf
          exact hs
        · exact fun q j hq => (f_X11_turn_b33 hf q j hq).trans (hs q j hq)
def T_X11_put  (q j : Nat) : Prop := q = 21 ∨ (q = 54 ∧ (j = 3 ∨ j = 4)) ∨ q = 56 ∨ q = 57 ∨ q = 58 ∨ q = 59 ∨ q = 60 ∨ q = 61 ∨ q = 62 ∨ q = 63 ∨ q = 64 ∨ q = 65 ∨ q = 66 ∨ q = 67 ∨ q = 68 ∨ q = 69 ∨ q = 70 ∨ q = 71 ∨ q = 72 ∨ q = 73 ∨ q = 74 ∨ q = 75 ∨ q = 85
theorem f_X11_put_b36 {F : Nat}  {r : Int} {σ' : mMem}   {σ : mMem} (hf : g_X11_put_b36 F  σ = some (r, σ')) : ∀ q j, ¬ T_X11_put  q j → σ' q j = σ q j := by
  unfold g_X11_put_b36 at hf
  have hs : ∀ q j, ¬ T_X11_put  q j → σ q j = σ q j := fun _ _ _ => rfl
  refine f_mob hf (fun r115 σ116 h1 hf => ?_)
  have hs := fun q j hq => (f_X11_refuse h1 q j (by unfold T_X11_put at hq; unfold T_X11_refuse; omega)).trans (hs q j hq)
  refine f_gd hf (fun hf => ?_)
  cases hf
  exact hs
theorem f_X11_put {F : Nat}  {r : Int} {σ' : mMem} {x1 x2 x3 : Int} {σ : mMem} (hf : g_X11_put F x1 x2 x3 σ = some (r, σ')) : ∀ q j, ¬ T_X11_put  q j → σ' q j = σ q j := by
  unfold g_X11_put at hf
  have hs : ∀ q j, ¬ T_X11_put  q j → σ q j = σ q j := fun _ _ _ => rfl
  refine f_gp hf (fun hg1 hf => ?_)
  refine f_mob hf (fun r2 σ3 h1 hf => ?_)
  have hs := fun q j hq => (f_X5_hasBox h1 q j (by unfold T_X5_hasBox; exact id)).trans (hs q j hq)
  refine f_ite hf (fun hf => ?_) (fun hf => ?_)
  · exact fun q j hq => (f_X11_put_b36 hf q j hq).trans (hs q j hq)
  · refine f_gp hf (fun hg4 hf => ?_)
    refine f_mob hf (fun r5 σ6 h1 hf => ?_)
    have hs := fun q j hq => (f_X5_hasCell h1 q j (by unfold T_X5_hasCell; exact id)).trans (hs q j hq)
    refine f_ite hf (fun hf => ?_) (fun hf => ?_)
    · exact fun q j hq => (f_X11_put_b36 hf q j hq).trans (hs q j hq)
    · refine f_mob hf (fun r7 σ8 h1 hf => ?_)
      have hs := fun q j hq => (f_X10_boxOn h1 q j (by unfold T_X10_boxOn; exact id)).trans (hs q j hq)
      refine f_ite hf (fun hf => ?_) (fun hf => ?_)
      · refine f_mob hf (fun r9 σ10 h1 hf => ?_)
        have hs := fun q j hq => (f_X3_remember h1 q j (by unfold T_X11_put at hq; unfold T_X3_remember; omega)).trans (hs q j hq)
        refine f_mob hf (fun r11 σ12 h1 hf => ?_)
        have hs := fun q j hq => (f_X10_set h1 q j (by unfold T_X11_put at hq; unfold T_X10_set; omega)).trans (hs q j hq)
        refine f_mob hf (fun r13 σ14 h1 hf => ?_)
        have hs := fun q j hq => (f_X10_set h1 q j (by unfold T_X11_put at hq; unfold T_X10_set; omega)).trans (hs q j hq)
        refine f_gd hf (fun hf => ?_)
        cases hf
        exact hs
      · exact fun q j hq => (f_X11_put_b36 hf q j hq).trans (hs q j hq)
def T_X11_shine  (q j : Nat) : Prop := (q = 20 ∧ (j = 5)) ∨ (q = 54 ∧ (j = 3 ∨ j = 4)) ∨ q = 56 ∨ q = 57 ∨ q = 58 ∨ q = 59 ∨ q = 60 ∨ q = 61 ∨ q = 62 ∨ q = 63 ∨ q = 64 ∨ q = 65 ∨ q = 66 ∨ q = 67 ∨ q = 68 ∨ q = 69 ∨ q = 70 ∨ q = 71 ∨ q = 72 ∨ q = 73 ∨ q = 74 ∨ q = 75 ∨ q = 85
theorem f_X11_shine_b21 {F : Nat}  {r : Int} {σ' : mMem}   {σ : mMem} (hf : g_X11_shine_b21 F  σ = some (r, σ')) : ∀ q j, ¬ T_X11_shine  q j → σ' q j = σ q j := by
  unfold g_X11_shine_b21 at hf
  have hs : ∀ q j, ¬ T_X11_shine  q j → σ q j = σ q j := fun _ _ _ => rfl
  refine f_mob hf (fun r104 σ105 h1 hf => ?_)
  have hs := fun q j hq => (f_X11_refuse h1 q j (by unfold T_X11_shine at hq; unfold T_X11_refuse; omega)).trans (hs q j hq)
  refine f_gd hf (fun hf => ?_)
  cases hf
  exact hs
theorem f_X11_shine {F : Nat}  {r : Int} {σ' : mMem} {x1 : Int} {σ : mMem} (hf : g_X11_shine F x1 σ = some (r, σ')) : ∀ q j, ¬ T_X11_shine  q j → σ' q j = σ q j := by
  unfold g_X11_shine at hf
  have hs : ∀ q j, ¬ T_X11_shine  q j → σ q j = σ q j := fun _ _ _ => rfl
  refine f_ite hf (fun hf => ?_) (fun hf => ?_)
  · exact fun q j hq => (f_X11_shine_b21 hf q j hq).trans (hs q j hq)
  · refine f_ite hf (fun hf => ?_) (fun hf => ?_)
    · exact fun q j hq => (f_X11_shine_b21 hf q j hq).trans (hs q j hq)
    · refine f_ite hf (fun hf => ?_) (fun hf => ?_)
      · refine f_mob hf (fun r1 σ2 h1 hf => ?_)
        have hs := fun q j hq => (f_X3_remember h1 q j (by unfold T_X11_shine at hq; unfold T_X3_remember; omega)).trans (hs q j hq)
        refine f_mem hf (fun q j hq => (mup_ne (by unfold T_X11_shine at hq; omega)).trans (hs q j hq)) (fun σ3 hs hf => ?_)
        refine f_gd hf (fun hf => ?_)
        cases hf
        exact hs
      · exact fun q j hq => (f_X11_shine_b21 hf q j hq).trans (hs q j hq)
def T_X11_undo  (q j : Nat) : Prop := (q = 20 ∧ (j = 4 ∨ j = 5)) ∨ q = 21 ∨ (q = 54 ∧ (j = 2 ∨ j = 3 ∨ j = 4)) ∨ q = 76 ∨ q = 85
theorem f_X11_undo {F : Nat}  {r : Int} {σ' : mMem} {σ : mMem} (hf : g_X11_undo F σ = some (r, σ')) : ∀ q j, ¬ T_X11_undo  q j → σ' q j = σ q j := by
  unfold g_X11_undo at hf
  have hs : ∀ q j, ¬ T_X11_undo  q j → σ q j = σ q j := fun _ _ _ => rfl
  refine f_ite hf (fun hf => ?_) (fun hf => ?_)
  · refine f_mob hf (fun r1 σ2 h1 hf => ?_)
    have hs := fun q j hq => (f_X3_restore h1 q j (by unfold T_X11_undo at hq; unfold T_X3_restore; omega)).trans (hs q j hq)
    refine f_gd hf (fun hf => ?_)
    cases hf
    exact hs
  · refine f_mob hf (fun r3 σ4 h1 hf => ?_)
    have hs := fun q j hq => (f_X11_refuse h1 q j (by unfold T_X11_undo at hq; unfold T_X11_refuse; omega)).trans (hs q j hq)
    refine f_gd hf (fun hf => ?_)
    cases hf
    exact hs
def T_X11_seed  (q j : Nat) : Prop := (q = 0 ∧ (j = 12)) ∨ q = 85
theorem f_X11_seed {F : Nat}  {r : Int} {σ' : mMem} {x1 : Int} {σ : mMem} (hf : g_X11_seed F x1 σ = some (r, σ')) : ∀ q j, ¬ T_X11_seed  q j → σ' q j = σ q j := by
  unfold g_X11_seed at hf
  have hs : ∀ q j, ¬ T_X11_seed  q j → σ q j = σ q j := fun _ _ _ => rfl
  refine f_ite hf (fun hf => ?_) (fun hf => ?_)
  · refine f_mem hf (fun q j hq => (mup_ne (by unfold T_X11_seed at hq; omega)).trans (hs q j hq)) (fun σ1 hs hf => ?_)
    refine f_gd hf (fun hf => ?_)
    cases hf
    exact hs
  · refine f_mob hf (fun r2 σ3 h1 hf => ?_)
    have hs := fun q j hq => (f_X11_refuse h1 q j (by unfold T_X11_seed at hq; unfold T_X11_refuse; omega)).trans (hs q j hq)
    refine f_gd hf (fun hf => ?_)
    cases hf
    exact hs
def T_X11_kept  (q j : Nat) : Prop := False
theorem f_X11_kept {F : Nat}  {r : Int} {σ' : mMem} {x1 x2 : Int} {σ : mMem} (hf : g_X11_kept F x1 x2 σ = some (r, σ')) : ∀ q j, ¬ T_X11_kept  q j → σ' q j = σ q j := by
  unfold g_X11_kept at hf
  have hs : ∀ q j, ¬ T_X11_kept  q j → σ q j = σ q j := fun _ _ _ => rfl
  refine f_mob hf (fun r1 σ2 h1 hf => ?_)
  have hs := fun q j hq => (f_X3_keptPart h1 q j (by unfold T_X3_keptPart; exact id)).trans (hs q j hq)
  cases hf
  exact hs
def T_X11_image  (q j : Nat) : Prop := (q = 77 ∧ (j = 1)) ∨ q = 78
theorem f_X11_image {F : Nat}  {r : Int} {σ' : mMem} {σ : mMem} (hf : g_X11_image F σ = some (r, σ')) : ∀ q j, ¬ T_X11_image  q j → σ' q j = σ q j := by
  unfold g_X11_image at hf
  have hs : ∀ q j, ¬ T_X11_image  q j → σ q j = σ q j := fun _ _ _ => rfl
  refine f_mob hf (fun r1 σ2 h1 hf => ?_)
  have hs := fun q j hq => (f_X4_write h1 q j (by unfold T_X11_image at hq; unfold T_X4_write; omega)).trans (hs q j hq)
  cases hf
  exact hs
def T_X11_octet  (q j : Nat) : Prop := False
theorem f_X11_octet {F : Nat}  {r : Int} {σ' : mMem} {x1 : Int} {σ : mMem} (hf : g_X11_octet F x1 σ = some (r, σ')) : ∀ q j, ¬ T_X11_octet  q j → σ' q j = σ q j := by
  unfold g_X11_octet at hf
  have hs : ∀ q j, ¬ T_X11_octet  q j → σ q j = σ q j := fun _ _ _ => rfl
  refine f_mob hf (fun r1 σ2 h1 hf => ?_)
  have hs := fun q j hq => (f_X4_byteAt h1 q j (by unfold T_X4_byteAt; exact id)).trans (hs q j hq)
  cases hf
  exact hs
def T_X11_on  (q j : Nat) : Prop := (q = 1 ∧ (j = 1)) ∨ (q = 20 ∧ (j = 3 ∨ j = 4 ∨ j = 5)) ∨ q = 21 ∨ (q = 54 ∧ (j = 2 ∨ j = 3 ∨ j = 4)) ∨ (q = 79 ∧ (j = 3 ∨ j = 4 ∨ j = 5)) ∨ q = 80 ∨ q = 85
theorem f_X11_on {F : Nat}  {r : Int} {σ' : mMem} {σ : mMem} (hf : g_X11_on F σ = some (r, σ')) : ∀ q j, ¬ T_X11_on  q j → σ' q j = σ q j := by
  unfold g_X11_on at hf
  have hs : ∀ q j, ¬ T_X11_on  q j → σ q j = σ q j := fun _ _ _ => rfl
  refine f_mob hf (fun r1 σ2 h1 hf => ?_)
  have hs := fun q j hq => (f_X4_readInto h1 q j (by unfold T_X11_on at hq; unfold T_X4_readInto; omega)).trans (hs q j hq)
  refine f_mem hf (fun q j hq => (mup_ne (by unfold T_X11_on at hq; omega)).trans (hs q j hq)) (fun σ3 hs hf => ?_)
  refine f_ite hf (fun hf => ?_) (fun hf => ?_)
  · refine f_mob hf (fun r4 σ5 h1 hf => ?_)
    have hs := fun q j hq => (f_X3_forget h1 q j (by unfold T_X11_on at hq; unfold T_X3_forget; omega)).trans (hs q j hq)
    refine f_gd hf (fun hf => ?_)
    cases hf
    exact hs
  · refine f_mob hf (fun r6 σ7 h1 hf => ?_)
    have hs := fun q j hq => (f_X11_refuse h1 q j (by unfold T_X11_on at hq; unfold T_X11_refuse; omega)).trans (hs q j hq)
    refine f_gd hf (fun hf => ?_)
    cases hf
    exact hs
def T_X11_status  (q j : Nat) : Prop := False
theorem f_X11_status_b23 {F : Nat}  {r : Int} {σ' : mMem}   {t0 : Int} {σ : mMem} (hf : g_X11_status_b23 F t0 σ = some (r, σ')) : ∀ q j, ¬ T_X11_status  q j → σ' q j = σ q j := by
  unfold g_X11_status_b23 at hf
  have hs : ∀ q j, ¬ T_X11_status  q j → σ q j = σ q j := fun _ _ _ => rfl
  cases hf
  exact hs
theorem f_X11_status_b13 {F : Nat}  {r : Int} {σ' : mMem}   {σ : mMem} (hf : g_X11_status_b13 F  σ = some (r, σ')) : ∀ q j, ¬ T_X11_status  q j → σ' q j = σ q j := by
  unfold g_X11_status_b13 at hf
  have hs : ∀ q j, ¬ T_X11_status  q j → σ q j = σ q j := fun _ _ _ => rfl
  exact fun q j hq => (f_X11_status_b23 hf q j hq).trans (hs q j hq)
theorem f_X11_status {F : Nat}  {r : Int} {σ' : mMem} {x1 : Int} {σ : mMem} (hf : g_X11_status F x1 σ = some (r, σ')) : ∀ q j, ¬ T_X11_status  q j → σ' q j = σ q j := by
  unfold g_X11_status at hf
  have hs : ∀ q j, ¬ T_X11_status  q j → σ q j = σ q j := fun _ _ _ => rfl
  refine f_ite hf (fun hf => ?_) (fun hf => ?_)
  · exact fun q j hq => (f_X11_status_b13 hf q j hq).trans (hs q j hq)
  · refine f_ite hf (fun hf => ?_) (fun hf => ?_)
    · refine f_gd hf (fun hf => ?_)
      exact fun q j hq => (f_X11_status_b23 hf q j hq).trans (hs q j hq)
    · exact fun q j hq => (f_X11_status_b13 hf q j hq).trans (hs q j hq)
def T_X12_is  (q j : Nat) : Prop := False
theorem f_X12_is_b15 {F : Nat}  {r : Int} {σ' : mMem}   {t0 : Int} {σ : mMem} (hf : g_X12_is_b15 F t0 σ = some (r, σ')) : ∀ q j, ¬ T_X12_is  q j → σ' q j = σ q j := by
  unfold g_X12_is_b15 at hf
  have hs : ∀ q j, ¬ T_X12_is  q j → σ q j = σ q j := fun _ _ _ => rfl
  refine f_gd hf (fun hf => ?_)
  cases hf
  exact hs
theorem f_X12_is_b14 {F : Nat}  {r : Int} {σ' : mMem}   {σ : mMem} (hf : g_X12_is_b14 F  σ = some (r, σ')) : ∀ q j, ¬ T_X12_is  q j → σ' q j = σ q j := by
  unfold g_X12_is_b14 at hf
  have hs : ∀ q j, ¬ T_X12_is  q j → σ q j = σ q j := fun _ _ _ => rfl
  exact fun q j hq => (f_X12_is_b15 hf q j hq).trans (hs q j hq)
theorem f_X12_is {F : Nat}  {r : Int} {σ' : mMem} {x0 x1 x2 : Int} {σ : mMem} (hf : g_X12_is F x0 x1 x2 σ = some (r, σ')) : ∀ q j, ¬ T_X12_is  q j → σ' q j = σ q j := by
  unfold g_X12_is at hf
  have hs : ∀ q j, ¬ T_X12_is  q j → σ q j = σ q j := fun _ _ _ => rfl
  refine f_ite hf (fun hf => ?_) (fun hf => ?_)
  · exact fun q j hq => (f_X12_is_b14 hf q j hq).trans (hs q j hq)
  · refine f_ite hf (fun hf => ?_) (fun hf => ?_)
    · exact fun q j hq => (f_X12_is_b14 hf q j hq).trans (hs q j hq)
    · exact fun q j hq => (f_X12_is_b15 hf q j hq).trans (hs q j hq)
def T_X12_put  (q j : Nat) : Prop := (q = 86 ∧ (j = 1)) ∨ q = 87
theorem f_X12_put_h3 {F : Nat}  {r : Int} {σ' : mMem}   (n : Nat) : ∀ {x1 x2 : Int} {σ : mMem} (_ : g_X12_put_h3 F n x1 x2 σ = some (r, σ')), ∀ q j, ¬ T_X12_put  q j → σ' q j = σ q j := by
  induction n with
  | zero =>
    intro x1 x2 σ hf
    unfold g_X12_put_h3 at hf
    cases hf
  | succ n ih =>
    have hk3 : ∀ (x1 x2 : Int) (σ : mMem), g_X12_put_h3 F n x1 x2 σ = some (r, σ') → ∀ q j, ¬ T_X12_put  q j → σ' q j = σ q j := fun x1 x2 σ hf => ih hf
    intro x1 x2 σ hf
    unfold g_X12_put_h3 at hf
    have hs : ∀ q j, ¬ T_X12_put  q j → σ q j = σ q j := fun _ _ _ => rfl
    refine f_ite hf (fun hf => ?_) (fun hf => ?_)
    · cases hf
      exact hs
    · refine f_gd hf (fun hf => ?_)
      refine f_mem hf (fun q j hq => (mup_ne (by unfold T_X12_put at hq; omega)).trans (hs q j hq)) (fun σ101 hs hf => ?_)
      refine f_mem hf (fun q j hq => (mup_ne (by unfold T_X12_put at hq; omega)).trans (hs q j hq)) (fun σ102 hs hf => ?_)
      exact fun q j hq => (hk3 _ _ _ hf q j hq).trans (hs q j hq)
theorem f_X12_put {F : Nat}  {r : Int} {σ' : mMem} {x1 : Int} {σ : mMem} (hf : g_X12_put F x1 σ = some (r, σ')) : ∀ q j, ¬ T_X12_put  q j → σ' q j = σ q j := by
  unfold g_X12_put at hf
  have hs : ∀ q j, ¬ T_X12_put  q j → σ q j = σ q j := fun _ _ _ => rfl
  exact fun q j hq => (f_X12_put_h3 _ hf q j hq).trans (hs q j hq)
def T_X12_refuses  (q j : Nat) : Prop := q = 109
theorem f_X12_refuses {F : Nat}  {r : Int} {σ' : mMem} {x1 : Int} {σ : mMem} (hf : g_X12_refuses F x1 σ = some (r, σ')) : ∀ q j, ¬ T_X12_refuses  q j → σ' q j = σ q j := by
  unfold g_X12_refuses at hf
  have hs : ∀ q j, ¬ T_X12_refuses  q j → σ q j = σ q j := fun _ _ _ => rfl
  refine f_gd hf (fun hf => ?_)
  refine f_gd hf (fun hf => ?_)
  refine f_mem hf (fun q j hq => (mup_ne (by unfold T_X12_refuses at hq; omega)).trans (hs q j hq)) (fun σ1 hs hf => ?_)
  cases hf
  exact hs
def T_X12_feed  (q j : Nat) : Prop := (q = 86 ∧ (j = 1)) ∨ q = 87 ∨ q = 109
theorem f_X12_feed {F : Nat}  {r : Int} {σ' : mMem} {x1 x2 x3 x4 x5 : Int} {σ : mMem} (hf : g_X12_feed F x1 x2 x3 x4 x5 σ = some (r, σ')) : ∀ q j, ¬ T_X12_feed  q j → σ' q j = σ q j := by
  unfold g_X12_feed at hf
  have hs : ∀ q j, ¬ T_X12_feed  q j → σ q j = σ q j := fun _ _ _ => rfl
  refine f_ite hf (fun hf => ?_) (fun hf => ?_)
  · refine f_mob hf (fun r1 σ2 h1 hf => ?_)
    have hs := fun q j hq => (f_X12_put h1 q j (by unfold T_X12_feed at hq; unfold T_X12_put; omega)).trans (hs q j hq)
    refine f_mob hf (fun r3 σ4 h1 hf => ?_)
    have hs := fun q j hq => (f_X12_put h1 q j (by unfold T_X12_feed at hq; unfold T_X12_put; omega)).trans (hs q j hq)
    refine f_mob hf (fun r5 σ6 h1 hf => ?_)
    have hs := fun q j hq => (f_X12_put h1 q j (by unfold T_X12_feed at hq; unfold T_X12_put; omega)).trans (hs q j hq)
    refine f_mob hf (fun r7 σ8 h1 hf => ?_)
    have hs := fun q j hq => (f_X12_put h1 q j (by unfold T_X12_feed at hq; unfold T_X12_put; omega)).trans (hs q j hq)
    refine f_mob hf (fun r9 σ10 h1 hf => ?_)
    have hs := fun q j hq => (f_X12_put h1 q j (by unfold T_X12_feed at hq; unfold T_X12_put; omega)).trans (hs q j hq)
    cases hf
    exact hs
  · refine f_mob hf (fun r11 σ12 h1 hf => ?_)
    have hs := fun q j hq => (f_X12_refuses h1 q j (by unfold T_X12_feed at hq; unfold T_X12_refuses; omega)).trans (hs q j hq)
    cases hf
    exact hs
def T_X12_end  (q j : Nat) : Prop := (q = 86 ∧ (j = 1)) ∨ q = 109
theorem f_X12_end_b25 {F : Nat}  {r : Int} {σ' : mMem}   {t0 : Int} {σ : mMem} (hf : g_X12_end_b25 F t0 σ = some (r, σ')) : ∀ q j, ¬ T_X12_end  q j → σ' q j = σ q j := by
  unfold g_X12_end_b25 at hf
  have hs : ∀ q j, ¬ T_X12_end  q j → σ q j = σ q j := fun _ _ _ => rfl
  refine f_gd hf (fun hf => ?_)
  cases hf
  exact hs
theorem f_X12_end_b12 {F : Nat}  {r : Int} {σ' : mMem}   {σ : mMem} (hf : g_X12_end_b12 F  σ = some (r, σ')) : ∀ q j, ¬ T_X12_end  q j → σ' q j = σ q j := by
  unfold g_X12_end_b12 at hf
  have hs : ∀ q j, ¬ T_X12_end  q j → σ q j = σ q j := fun _ _ _ => rfl
  refine f_mob hf (fun r102 σ103 h1 hf => ?_)
  have hs := fun q j hq => (f_X12_refuses h1 q j (by unfold T_X12_end at hq; unfold T_X12_refuses; omega)).trans (hs q j hq)
  refine f_ite hf (fun hf => ?_) (fun hf => ?_)
  · exact fun q j hq => (f_X12_end_b25 hf q j hq).trans (hs q j hq)
  · exact fun q j hq => (f_X12_end_b25 hf q j hq).trans (hs q j hq)
theorem f_X12_end {F : Nat}  {r : Int} {σ' : mMem} {x1 : Int} {σ : mMem} (hf : g_X12_end F x1 σ = some (r, σ')) : ∀ q j, ¬ T_X12_end  q j → σ' q j = σ q j := by
  unfold g_X12_end at hf
  have hs : ∀ q j, ¬ T_X12_end  q j → σ q j = σ q j := fun _ _ _ => rfl
  refine f_ite hf (fun hf => ?_) (fun hf => ?_)
  · exact fun q j hq => (f_X12_end_b12 hf q j hq).trans (hs q j hq)
  · refine f_ite hf (fun hf => ?_) (fun hf => ?_)
    · refine f_mem hf (fun q j hq => (mup_ne (by unfold T_X12_end at hq; omega)).trans (hs q j hq)) (fun σ1 hs hf => ?_)
      refine f_gd hf (fun hf => ?_)
      cases hf
      exact hs
    · exact fun q j hq => (f_X12_end_b12 hf q j hq).trans (hs q j hq)
def T_X12_blame  (q j : Nat) : Prop := (q = 86 ∧ (j = 8 ∨ j = 9))
theorem f_X12_blame {F : Nat}  {r : Int} {σ' : mMem} {x1 x2 : Int} {σ : mMem} (hf : g_X12_blame F x1 x2 σ = some (r, σ')) : ∀ q j, ¬ T_X12_blame  q j → σ' q j = σ q j := by
  unfold g_X12_blame at hf
  have hs : ∀ q j, ¬ T_X12_blame  q j → σ q j = σ q j := fun _ _ _ => rfl
  refine f_ite hf (fun hf => ?_) (fun hf => ?_)
  · refine f_mem hf (fun q j hq => (mup_ne (by unfold T_X12_blame at hq; omega)).trans (hs q j hq)) (fun σ1 hs hf => ?_)
    refine f_mem hf (fun q j hq => (mup_ne (by unfold T_X12_blame at hq; omega)).trans (hs q j hq)) (fun σ2 hs hf => ?_)
    cases hf
    exact hs
  · cases hf
    exact hs
def T_X12_isLetter  (q j : Nat) : Prop := False
theorem f_X12_isLetter_b17 {F : Nat}  {r : Int} {σ' : mMem}   {t0 : Int} {σ : mMem} (hf : g_X12_isLetter_b17 F t0 σ = some (r, σ')) : ∀ q j, ¬ T_X12_isLetter  q j → σ' q j = σ q j := by
  unfold g_X12_isLetter_b17 at hf
  have hs : ∀ q j, ¬ T_X12_isLetter  q j → σ q j = σ q j := fun _ _ _ => rfl
  refine f_gd hf (fun hf => ?_)
  cases hf
  exact hs
theorem f_X12_isLetter_b16 {F : Nat}  {r : Int} {σ' : mMem}   {σ : mMem} (hf : g_X12_isLetter_b16 F  σ = some (r, σ')) : ∀ q j, ¬ T_X12_isLetter  q j → σ' q j = σ q j := by
  unfold g_X12_isLetter_b16 at hf
  have hs : ∀ q j, ¬ T_X12_isLetter  q j → σ q j = σ q j := fun _ _ _ => rfl
  exact fun q j hq => (f_X12_isLetter_b17 hf q j hq).trans (hs q j hq)
theorem f_X12_isLetter {F : Nat}  {r : Int} {σ' : mMem} {x0 : Int} {σ : mMem} (hf : g_X12_isLetter F x0 σ = some (r, σ')) : ∀ q j, ¬ T_X12_isLetter  q j → σ' q j = σ q j := by
  unfold g_X12_isLetter at hf
  have hs : ∀ q j, ¬ T_X12_isLetter  q j → σ q j = σ q j := fun _ _ _ => rfl
  refine f_ite hf (fun hf => ?_) (fun hf => ?_)
  · exact fun q j hq => (f_X12_isLetter_b16 hf q j hq).trans (hs q j hq)
  · refine f_ite hf (fun hf => ?_) (fun hf => ?_)
    · exact fun q j hq => (f_X12_isLetter_b16 hf q j hq).trans (hs q j hq)
    · exact fun q j hq => (f_X12_isLetter_b17 hf q j hq).trans (hs q j hq)
def T_X12_isDigit  (q j : Nat) : Prop := False
theorem f_X12_isDigit_b17 {F : Nat}  {r : Int} {σ' : mMem}   {t0 : Int} {σ : mMem} (hf : g_X12_isDigit_b17 F t0 σ = some (r, σ')) : ∀ q j, ¬ T_X12_isDigit  q j → σ' q j = σ q j := by
  unfold g_X12_isDigit_b17 at hf
  have hs : ∀ q j, ¬ T_X12_isDigit  q j → σ q j = σ q j := fun _ _ _ => rfl
  refine f_gd hf (fun hf => ?_)
  cases hf
  exact hs
theorem f_X12_isDigit_b16 {F : Nat}  {r : Int} {σ' : mMem}   {σ : mMem} (hf : g_X12_isDigit_b16 F  σ = some (r, σ')) : ∀ q j, ¬ T_X12_isDigit  q j → σ' q j = σ q j := by
  unfold g_X12_isDigit_b16 at hf
  have hs : ∀ q j, ¬ T_X12_isDigit  q j → σ q j = σ q j := fun _ _ _ => rfl
  exact fun q j hq => (f_X12_isDigit_b17 hf q j hq).trans (hs q j hq)
theorem f_X12_isDigit {F : Nat}  {r : Int} {σ' : mMem} {x0 : Int} {σ : mMem} (hf : g_X12_isDigit F x0 σ = some (r, σ')) : ∀ q j, ¬ T_X12_isDigit  q j → σ' q j = σ q j := by
  unfold g_X12_isDigit at hf
  have hs : ∀ q j, ¬ T_X12_isDigit  q j → σ q j = σ q j := fun _ _ _ => rfl
  refine f_ite hf (fun hf => ?_) (fun hf => ?_)
  · exact fun q j hq => (f_X12_isDigit_b16 hf q j hq).trans (hs q j hq)
  · refine f_ite hf (fun hf => ?_) (fun hf => ?_)
    · exact fun q j hq => (f_X12_isDigit_b16 hf q j hq).trans (hs q j hq)
    · exact fun q j hq => (f_X12_isDigit_b17 hf q j hq).trans (hs q j hq)
def T_X12_lex  (q j : Nat) : Prop := (q = 86 ∧ (j = 8 ∨ j = 9))
theorem f_X12_lex_b17 {F : Nat}  {r : Int} {σ' : mMem}   {σ : mMem} (hf : g_X12_lex_b17 F  σ = some (r, σ')) : ∀ q j, ¬ T_X12_lex  q j → σ' q j = σ q j := by
  unfold g_X12_lex_b17 at hf
  have hs : ∀ q j, ¬ T_X12_lex  q j → σ q j = σ q j := fun _ _ _ => rfl
  cases hf
  exact hs
theorem f_X12_lex {F : Nat}  {r : Int} {σ' : mMem} {σ : mMem} (hf : g_X12_lex F σ = some (r, σ')) : ∀ q j, ¬ T_X12_lex  q j → σ' q j = σ q j := by
  unfold g_X12_lex at hf
  have hs : ∀ q j, ¬ T_X12_lex  q j → σ q j = σ q j := fun _ _ _ => rfl
  refine f_ite hf (fun hf => ?_) (fun hf => ?_)
  · exact fun q j hq => (f_X12_lex_b17 hf q j hq).trans (hs q j hq)
  · refine f_mob hf (fun r1 σ2 h1 hf => ?_)
    have hs := fun q j hq => (f_X12_blame h1 q j (by unfold T_X12_lex at hq; unfold T_X12_blame; omega)).trans (hs q j hq)
    exact fun q j hq => (f_X12_lex_b17 hf q j hq).trans (hs q j hq)
def T_X12_ahead  (q j : Nat) : Prop := (q = 86 ∧ (j = 3 ∨ j = 4 ∨ j = 5 ∨ j = 6 ∨ j = 7 ∨ j = 12))
theorem f_X12_ahead_b334 {F : Nat}  {r : Int} {σ' : mMem}   {x1 : Int} {σ : mMem} (hf : g_X12_ahead_b334 F x1 σ = some (r, σ')) : ∀ q j, ¬ T_X12_ahead  q j → σ' q j = σ q j := by
  unfold g_X12_ahead_b334 at hf
  have hs : ∀ q j, ¬ T_X12_ahead  q j → σ q j = σ q j := fun _ _ _ => rfl
  refine f_mem hf (fun q j hq => (mup_ne (by unfold T_X12_ahead at hq; omega)).trans (hs q j hq)) (fun σ1125 hs hf => ?_)
  cases hf
  exact hs
theorem f_X12_ahead_b325 {F : Nat}  {r : Int} {σ' : mMem} {k204 : Int → Int → Int → Int → Int → mMem → mRs} (hk204 : ∀ (x1 x2 x3 x4 x5 : Int) (σ : mMem), k204 x1 x2 x3 x4 x5 σ = some (r, σ') → ∀ q j, ¬ T_X12_ahead  q j → σ' q j = σ q j) {x1 x2 x3 x4 x5 : Int} {σ : mMem} (hf : g_X12_ahead_b325 F k204 x1 x2 x3 x4 x5 σ = some (r, σ')) : ∀ q j, ¬ T_X12_ahead  q j → σ' q j = σ q j := by
  unfold g_X12_ahead_b325 at hf
  have hs : ∀ q j, ¬ T_X12_ahead  q j → σ q j = σ q j := fun _ _ _ => rfl
  exact fun q j hq => (hk204 _ _ _ _ _ _ hf q j hq).trans (hs q j hq)
theorem f_X12_ahead_b293 {F : Nat}  {r : Int} {σ' : mMem} {k204 : Int → Int → Int → Int → Int → mMem → mRs} (hk204 : ∀ (x1 x2 x3 x4 x5 : Int) (σ : mMem), k204 x1 x2 x3 x4 x5 σ = some (r, σ') → ∀ q j, ¬ T_X12_ahead  q j → σ' q j = σ q j) {x1 x2 x3 x4 x5 : Int} {σ : mMem} (hf : g_X12_ahead_b293 F k204 x1 x2 x3 x4 x5 σ = some (r, σ')) : ∀ q j, ¬ T_X12_ahead  q j → σ' q j = σ q j := by
  unfold g_X12_ahead_b293 at hf
  have hs : ∀ q j, ¬ T_X12_ahead  q j → σ q j = σ q j := fun _ _ _ => rfl
  refine f_ite hf (fun hf => ?_) (fun hf => ?_)
  · exact fun q j hq => (f_X12_ahead_b325 hk204 hf q j hq).trans (hs q j hq)
  · refine f_ite hf (fun hf => ?_) (fun hf => ?_)
    · exact fun q j hq => (f_X12_ahead_b325 hk204 hf q j hq).trans (hs q j hq)
    · refine f_gd hf (fun hf => ?_)
      refine f_mem hf (fun q j hq => (mup_ne (by unfold T_X12_ahead at hq; omega)).trans (hs q j hq)) (fun σ1428 hs hf => ?_)
      exact fun q j hq => (f_X12_ahead_b325 hk204 hf q j hq).trans (hs q j hq)
theorem f_X12_ahead_b263 {F : Nat}  {r : Int} {σ' : mMem} {k204 : Int → Int → Int → Int → Int → mMem → mRs} (hk204 : ∀ (x1 x2 x3 x4 x5 : Int) (σ : mMem), k204 x1 x2 x3 x4 x5 σ = some (r, σ') → ∀ q j, ¬ T_X12_ahead  q j → σ' q j = σ q j) {x1 x2 x3 x4 x5 : Int} {σ : mMem} (hf : g_X12_ahead_b263 F k204 x1 x2 x3 x4 x5 σ = some (r, σ')) : ∀ q j, ¬ T_X12_ahead  q j → σ' q j = σ q j := by
  unfold g_X12_ahead_b263 at hf
  have hs : ∀ q j, ¬ T_X12_ahead  q j → σ q j = σ q j := fun _ _ _ => rfl
  refine f_ite hf (fun hf => ?_) (fun hf => ?_)
  · exact fun q j hq => (f_X12_ahead_b293 hk204 hf q j hq).trans (hs q j hq)
  · refine f_ite hf (fun hf => ?_) (fun hf => ?_)
    · exact fun q j hq => (f_X12_ahead_b293 hk204 hf q j hq).trans (hs q j hq)
    · refine f_gd hf (fun hf => ?_)
      refine f_mem hf (fun q j hq => (mup_ne (by unfold T_X12_ahead at hq; omega)).trans (hs q j hq)) (fun σ1327 hs hf => ?_)
      exact fun q j hq => (f_X12_ahead_b293 hk204 hf q j hq).trans (hs q j hq)
theorem f_X12_ahead_b243 {F : Nat}  {r : Int} {σ' : mMem} {k204 : Int → Int → Int → Int → Int → mMem → mRs} (hk204 : ∀ (x1 x2 x3 x4 x5 : Int) (σ : mMem), k204 x1 x2 x3 x4 x5 σ = some (r, σ') → ∀ q j, ¬ T_X12_ahead  q j → σ' q j = σ q j) {x1 x2 x3 x4 x5 : Int} {σ : mMem} (hf : g_X12_ahead_b243 F k204 x1 x2 x3 x4 x5 σ = some (r, σ')) : ∀ q j, ¬ T_X12_ahead  q j → σ' q j = σ q j := by
  unfold g_X12_ahead_b243 at hf
  have hs : ∀ q j, ¬ T_X12_ahead  q j → σ q j = σ q j := fun _ _ _ => rfl
  refine f_ite hf (fun hf => ?_) (fun hf => ?_)
  · exact fun q j hq => (f_X12_ahead_b263 hk204 hf q j hq).trans (hs q j hq)
  · refine f_ite hf (fun hf => ?_) (fun hf => ?_)
    · exact fun q j hq => (f_X12_ahead_b263 hk204 hf q j hq).trans (hs q j hq)
    · refine f_mem hf (fun q j hq => (mup_ne (by unfold T_X12_ahead at hq; omega)).trans (hs q j hq)) (fun σ1226 hs hf => ?_)
      exact fun q j hq => (f_X12_ahead_b263 hk204 hf q j hq).trans (hs q j hq)
theorem f_X12_ahead_h204 {F : Nat}  {r : Int} {σ' : mMem}   (n : Nat) : ∀ {x1 x2 x3 x4 x5 : Int} {σ : mMem} (_ : g_X12_ahead_h204 F n x1 x2 x3 x4 x5 σ = some (r, σ')), ∀ q j, ¬ T_X12_ahead  q j → σ' q j = σ q j := by
  induction n with
  | zero =>
    intro x1 x2 x3 x4 x5 σ hf
    unfold g_X12_ahead_h204 at hf
    cases hf
  | succ n ih =>
    have hk204 : ∀ (x1 x2 x3 x4 x5 : Int) (σ : mMem), g_X12_ahead_h204 F n x1 x2 x3 x4 x5 σ = some (r, σ') → ∀ q j, ¬ T_X12_ahead  q j → σ' q j = σ q j := fun x1 x2 x3 x4 x5 σ hf => ih hf
    intro x1 x2 x3 x4 x5 σ hf
    unfold g_X12_ahead_h204 at hf
    have hs : ∀ q j, ¬ T_X12_ahead  q j → σ q j = σ q j := fun _ _ _ => rfl
    refine f_ite hf (fun hf => ?_) (fun hf => ?_)
    · exact fun q j hq => (f_X12_ahead_b334 hf q j hq).trans (hs q j hq)
    · refine f_ite hf (fun hf => ?_) (fun hf => ?_)
      · refine f_gd hf (fun hf => ?_)
        refine f_mob hf (fun r1021 σ1022 h1 hf => ?_)
        have hs := fun q j hq => (f_X12_isDigit h1 q j (by unfold T_X12_isDigit; exact id)).trans (hs q j hq)
        refine f_ite hf (fun hf => ?_) (fun hf => ?_)
        · exact fun q j hq => (f_X12_ahead_b334 hf q j hq).trans (hs q j hq)
        · exact fun q j hq => (f_X12_ahead_b243 hk204 hf q j hq).trans (hs q j hq)
      · refine f_gd hf (fun hf => ?_)
        refine f_mob hf (fun r1023 σ1024 h1 hf => ?_)
        have hs := fun q j hq => (f_X12_isLetter h1 q j (by unfold T_X12_isLetter; exact id)).trans (hs q j hq)
        refine f_ite hf (fun hf => ?_) (fun hf => ?_)
        · exact fun q j hq => (f_X12_ahead_b334 hf q j hq).trans (hs q j hq)
        · exact fun q j hq => (f_X12_ahead_b243 hk204 hf q j hq).trans (hs q j hq)
theorem f_X12_ahead_b199 {F : Nat}  {r : Int} {σ' : mMem}   {x1 x2 x3 t0 : Int} {σ : mMem} (hf : g_X12_ahead_b199 F x1 x2 x3 t0 σ = some (r, σ')) : ∀ q j, ¬ T_X12_ahead  q j → σ' q j = σ q j := by
  unfold g_X12_ahead_b199 at hf
  have hs : ∀ q j, ¬ T_X12_ahead  q j → σ q j = σ q j := fun _ _ _ => rfl
  exact fun q j hq => (f_X12_ahead_h204 _ hf q j hq).trans (hs q j hq)
theorem f_X12_ahead_b186 {F : Nat}  {r : Int} {σ' : mMem}   {x1 x2 x3 t0 : Int} {σ : mMem} (hf : g_X12_ahead_b186 F x1 x2 x3 t0 σ = some (r, σ')) : ∀ q j, ¬ T_X12_ahead  q j → σ' q j = σ q j := by
  unfold g_X12_ahead_b186 at hf
  have hs : ∀ q j, ¬ T_X12_ahead  q j → σ q j = σ q j := fun _ _ _ => rfl
  refine f_mem hf (fun q j hq => (mup_ne (by unfold T_X12_ahead at hq; omega)).trans (hs q j hq)) (fun σ820 hs hf => ?_)
  refine f_ite hf (fun hf => ?_) (fun hf => ?_)
  · exact fun q j hq => (f_X12_ahead_b199 hf q j hq).trans (hs q j hq)
  · exact fun q j hq => (f_X12_ahead_b199 hf q j hq).trans (hs q j hq)
theorem f_X12_ahead_b176 {F : Nat}  {r : Int} {σ' : mMem}   {x1 x2 x3 : Int} {σ : mMem} (hf : g_X12_ahead_b176 F x1 x2 x3 σ = some (r, σ')) : ∀ q j, ¬ T_X12_ahead  q j → σ' q j = σ q j := by
  unfold g_X12_ahead_b176 at hf
  have hs : ∀ q j, ¬ T_X12_ahead  q j → σ q j = σ q j := fun _ _ _ => rfl
  refine f_ite hf (fun hf => ?_) (fun hf => ?_)
  · exact fun q j hq => (f_X12_ahead_b186 hf q j hq).trans (hs q j hq)
  · exact fun q j hq => (f_X12_ahead_b186 hf q j hq).trans (hs q j hq)
theorem f_X12_ahead_b135 {F : Nat}  {r : Int} {σ' : mMem}   {x1 x2 x3 : Int} {σ : mMem} (hf : g_X12_ahead_b135 F x1 x2 x3 σ = some (r, σ')) : ∀ q j, ¬ T_X12_ahead  q j → σ' q j = σ q j := by
  unfold g_X12_ahead_b135 at hf
  have hs : ∀ q j, ¬ T_X12_ahead  q j → σ q j = σ q j := fun _ _ _ => rfl
  refine f_mem hf (fun q j hq => (mup_ne (by unfold T_X12_ahead at hq; omega)).trans (hs q j hq)) (fun σ410 hs hf => ?_)
  refine f_mem hf (fun q j hq => (mup_ne (by unfold T_X12_ahead at hq; omega)).trans (hs q j hq)) (fun σ411 hs hf => ?_)
  refine f_mem hf (fun q j hq => (mup_ne (by unfold T_X12_ahead at hq; omega)).trans (hs q j hq)) (fun σ412 hs hf => ?_)
  refine f_mem hf (fun q j hq => (mup_ne (by unfold T_X12_ahead at hq; omega)).trans (hs q j hq)) (fun σ413 hs hf => ?_)
  refine f_ite hf (fun hf => ?_) (fun hf => ?_)
  · exact fun q j hq => (f_X12_ahead_b176 hf q j hq).trans (hs q j hq)
  · refine f_ite hf (fun hf => ?_) (fun hf => ?_)
    · exact fun q j hq => (f_X12_ahead_b176 hf q j hq).trans (hs q j hq)
    · refine f_gd hf (fun hf => ?_)
      refine f_mem hf (fun q j hq => (mup_ne (by unfold T_X12_ahead at hq; omega)).trans (hs q j hq)) (fun σ414 hs hf => ?_)
      cases hf
      exact hs
theorem f_X12_ahead_b130 {F : Nat}  {r : Int} {σ' : mMem}   {x1 x2 x3 : Int} {σ : mMem} (hf : g_X12_ahead_b130 F x1 x2 x3 σ = some (r, σ')) : ∀ q j, ¬ T_X12_ahead  q j → σ' q j = σ q j := by
  unfold g_X12_ahead_b130 at hf
  have hs : ∀ q j, ¬ T_X12_ahead  q j → σ q j = σ q j := fun _ _ _ => rfl
  refine f_mem hf (fun q j hq => (mup_ne (by unfold T_X12_ahead at hq; omega)).trans (hs q j hq)) (fun σ719 hs hf => ?_)
  exact fun q j hq => (f_X12_ahead_b135 hf q j hq).trans (hs q j hq)
theorem f_X12_ahead_b98 {F : Nat}  {r : Int} {σ' : mMem}   {x1 x2 x3 : Int} {σ : mMem} (hf : g_X12_ahead_b98 F x1 x2 x3 σ = some (r, σ')) : ∀ q j, ¬ T_X12_ahead  q j → σ' q j = σ q j := by
  unfold g_X12_ahead_b98 at hf
  have hs : ∀ q j, ¬ T_X12_ahead  q j → σ q j = σ q j := fun _ _ _ => rfl
  refine f_ite hf (fun hf => ?_) (fun hf => ?_)
  · exact fun q j hq => (f_X12_ahead_b135 hf q j hq).trans (hs q j hq)
  · refine f_gd hf (fun hf => ?_)
    refine f_mob hf (fun r515 σ516 h1 hf => ?_)
    have hs := fun q j hq => (f_X12_isLetter h1 q j (by unfold T_X12_isLetter; exact id)).trans (hs q j hq)
    refine f_ite hf (fun hf => ?_) (fun hf => ?_)
    · exact fun q j hq => (f_X12_ahead_b130 hf q j hq).trans (hs q j hq)
    · refine f_gd hf (fun hf => ?_)
      refine f_mob hf (fun r517 σ518 h1 hf => ?_)
      have hs := fun q j hq => (f_X12_isDigit h1 q j (by unfold T_X12_isDigit; exact id)).trans (hs q j hq)
      refine f_ite hf (fun hf => ?_) (fun hf => ?_)
      · exact fun q j hq => (f_X12_ahead_b135 hf q j hq).trans (hs q j hq)
      · exact fun q j hq => (f_X12_ahead_b130 hf q j hq).trans (hs q j hq)
theorem f_X12_ahead_b41 {F : Nat}  {r : Int} {σ' : mMem}   {x1 : Int} {σ : mMem} (hf : g_X12_ahead_b41 F x1 σ = some (r, σ')) : ∀ q j, ¬ T_X12_ahead  q j → σ' q j = σ q j := by
  unfold g_X12_ahead_b41 at hf
  have hs : ∀ q j, ¬ T_X12_ahead  q j → σ q j = σ q j := fun _ _ _ => rfl
  refine f_mem hf (fun q j hq => (mup_ne (by unfold T_X12_ahead at hq; omega)).trans (hs q j hq)) (fun σ202 hs hf => ?_)
  refine f_mem hf (fun q j hq => (mup_ne (by unfold T_X12_ahead at hq; omega)).trans (hs q j hq)) (fun σ203 hs hf => ?_)
  refine f_mem hf (fun q j hq => (mup_ne (by unfold T_X12_ahead at hq; omega)).trans (hs q j hq)) (fun σ204 hs hf => ?_)
  refine f_mem hf (fun q j hq => (mup_ne (by unfold T_X12_ahead at hq; omega)).trans (hs q j hq)) (fun σ205 hs hf => ?_)
  refine f_ite hf (fun hf => ?_) (fun hf => ?_)
  · refine f_gd hf (fun hf => ?_)
    refine f_mob hf (fun r206 σ207 h1 hf => ?_)
    have hs := fun q j hq => (f_X12_isLetter h1 q j (by unfold T_X12_isLetter; exact id)).trans (hs q j hq)
    refine f_gd hf (fun hf => ?_)
    refine f_mob hf (fun r208 σ209 h1 hf => ?_)
    have hs := fun q j hq => (f_X12_isDigit h1 q j (by unfold T_X12_isDigit; exact id)).trans (hs q j hq)
    refine f_ite hf (fun hf => ?_) (fun hf => ?_)
    · exact fun q j hq => (f_X12_ahead_b98 hf q j hq).trans (hs q j hq)
    · refine f_ite hf (fun hf => ?_) (fun hf => ?_)
      · exact fun q j hq => (f_X12_ahead_b135 hf q j hq).trans (hs q j hq)
      · exact fun q j hq => (f_X12_ahead_b98 hf q j hq).trans (hs q j hq)
  · cases hf
    exact hs
theorem f_X12_ahead_b35 {F : Nat}  {r : Int} {σ' : mMem} {k5 : Int → mMem → mRs} (hk5 : ∀ (x1 : Int) (σ : mMem), k5 x1 σ = some (r, σ') → ∀ q j, ¬ T_X12_ahead  q j → σ' q j = σ q j) {x1 : Int} {σ : mMem} (hf : g_X12_ahead_b35 F k5 x1 σ = some (r, σ')) : ∀ q j, ¬ T_X12_ahead  q j → σ' q j = σ q j := by
  unfold g_X12_ahead_b35 at hf
  have hs : ∀ q j, ¬ T_X12_ahead  q j → σ q j = σ q j := fun _ _ _ => rfl
  exact fun q j hq => (hk5 _ _ hf q j hq).trans (hs q j hq)
theorem f_X12_ahead_h5 {F : Nat}  {r : Int} {σ' : mMem}   (n : Nat) : ∀ {x1 : Int} {σ : mMem} (_ : g_X12_ahead_h5 F n x1 σ = some (r, σ')), ∀ q j, ¬ T_X12_ahead  q j → σ' q j = σ q j := by
  induction n with
  | zero =>
    intro x1 σ hf
    unfold g_X12_ahead_h5 at hf
    cases hf
  | succ n ih =>
    have hk5 : ∀ (x1 : Int) (σ : mMem), g_X12_ahead_h5 F n x1 σ = some (r, σ') → ∀ q j, ¬ T_X12_ahead  q j → σ' q j = σ q j := fun x1 σ hf => ih hf
    intro x1 σ hf
    unfold g_X12_ahead_h5 at hf
    have hs : ∀ q j, ¬ T_X12_ahead  q j → σ q j = σ q j := fun _ _ _ => rfl
    refine f_ite hf (fun hf => ?_) (fun hf => ?_)
    · exact fun q j hq => (f_X12_ahead_b41 hf q j hq).trans (hs q j hq)
    · refine f_gd hf (fun hf => ?_)
      refine f_ite hf (fun hf => ?_) (fun hf => ?_)
      · exact fun q j hq => (f_X12_ahead_b35 hk5 hf q j hq).trans (hs q j hq)
      · refine f_gd hf (fun hf => ?_)
        refine f_ite hf (fun hf => ?_) (fun hf => ?_)
        · exact fun q j hq => (f_X12_ahead_b41 hf q j hq).trans (hs q j hq)
        · exact fun q j hq => (f_X12_ahead_b35 hk5 hf q j hq).trans (hs q j hq)
theorem f_X12_ahead {F : Nat}  {r : Int} {σ' : mMem} {σ : mMem} (hf : g_X12_ahead F σ = some (r, σ')) : ∀ q j, ¬ T_X12_ahead  q j → σ' q j = σ q j := by
  unfold g_X12_ahead at hf
  have hs : ∀ q j, ¬ T_X12_ahead  q j → σ q j = σ q j := fun _ _ _ => rfl
  refine f_let hf (fun y1 hf => ?_)
  exact fun q j hq => (f_X12_ahead_h5 _ hf q j hq).trans (hs q j hq)
def T_X12_isSign  (q j : Nat) : Prop := False
theorem f_X12_isSign_b21 {F : Nat}  {r : Int} {σ' : mMem}   {t0 : Int} {σ : mMem} (hf : g_X12_isSign_b21 F t0 σ = some (r, σ')) : ∀ q j, ¬ T_X12_isSign  q j → σ' q j = σ q j := by
  unfold g_X12_isSign_b21 at hf
  have hs : ∀ q j, ¬ T_X12_isSign  q j → σ q j = σ q j := fun _ _ _ => rfl
  refine f_gd hf (fun hf => ?_)
  cases hf
  exact hs
theorem f_X12_isSign_b20 {F : Nat}  {r : Int} {σ' : mMem}   {σ : mMem} (hf : g_X12_isSign_b20 F  σ = some (r, σ')) : ∀ q j, ¬ T_X12_isSign  q j → σ' q j = σ q j := by
  unfold g_X12_isSign_b20 at hf
  have hs : ∀ q j, ¬ T_X12_isSign  q j → σ q j = σ q j := fun _ _ _ => rfl
  exact fun q j hq => (f_X12_isSign_b21 hf q j hq).trans (hs q j hq)
theorem f_X12_isSign {F : Nat}  {r : Int} {σ' : mMem} {x1 : Int} {σ : mMem} (hf : g_X12_isSign F x1 σ = some (r, σ')) : ∀ q j, ¬ T_X12_isSign  q j → σ' q j = σ q j := by
  unfold g_X12_isSign at hf
  have hs : ∀ q j, ¬ T_X12_isSign  q j → σ q j = σ q j := fun _ _ _ => rfl
  refine f_ite hf (fun hf => ?_) (fun hf => ?_)
  · exact fun q j hq => (f_X12_isSign_b20 hf q j hq).trans (hs q j hq)
  · refine f_ite hf (fun hf => ?_) (fun hf => ?_)
    · exact fun q j hq => (f_X12_isSign_b20 hf q j hq).trans (hs q j hq)
    · exact fun q j hq => (f_X12_isSign_b21 hf q j hq).trans (hs q j hq)
def T_X12_isWord  (q j : Nat) : Prop := False
theorem f_X12_isWord_b22 {F : Nat}  {r : Int} {σ' : mMem}   {t0 : Int} {σ : mMem} (hf : g_X12_isWord_b22 F t0 σ = some (r, σ')) : ∀ q j, ¬ T_X12_isWord  q j → σ' q j = σ q j := by
  unfold g_X12_isWord_b22 at hf
  have hs : ∀ q j, ¬ T_X12_isWord  q j → σ q j = σ q j := fun _ _ _ => rfl
  refine f_gd hf (fun hf => ?_)
  cases hf
  exact hs
theorem f_X12_isWord_b21 {F : Nat}  {r : Int} {σ' : mMem}   {σ : mMem} (hf : g_X12_isWord_b21 F  σ = some (r, σ')) : ∀ q j, ¬ T_X12_isWord  q j → σ' q j = σ q j := by
  unfold g_X12_isWord_b21 at hf
  have hs : ∀ q j, ¬ T_X12_isWord  q j → σ q j = σ q j := fun _ _ _ => rfl
  exact fun q j hq => (f_X12_isWord_b22 hf q j hq).trans (hs q j hq)
theorem f_X12_isWord {F : Nat}  {r : Int} {σ' : mMem} {x1 : Int} {σ : mMem} (hf : g_X12_isWord F x1 σ = some (r, σ')) : ∀ q j, ¬ T_X12_isWord  q j → σ' q j = σ q j := by
  unfold g_X12_isWord at hf
  have hs : ∀ q j, ¬ T_X12_isWord  q j → σ q j = σ q j := fun _ _ _ => rfl
  refine f_ite hf (fun hf => ?_) (fun hf => ?_)
  · exact fun q j hq => (f_X12_isWord_b21 hf q j hq).trans (hs q j hq)
  · refine f_ite hf (fun hf => ?_) (fun hf => ?_)
    · exact fun q j hq => (f_X12_isWord_b21 hf q j hq).trans (hs q j hq)
    · exact fun q j hq => (f_X12_isWord_b22 hf q j hq).trans (hs q j hq)
def T_X12_must  (q j : Nat) : Prop := (q = 86 ∧ (j = 3 ∨ j = 4 ∨ j = 5 ∨ j = 6 ∨ j = 7 ∨ j = 8 ∨ j = 9 ∨ j = 12))
theorem f_X12_must_b32 {F : Nat}  {r : Int} {σ' : mMem}   {σ : mMem} (hf : g_X12_must_b32 F  σ = some (r, σ')) : ∀ q j, ¬ T_X12_must  q j → σ' q j = σ q j := by
  unfold g_X12_must_b32 at hf
  have hs : ∀ q j, ¬ T_X12_must  q j → σ q j = σ q j := fun _ _ _ => rfl
  cases hf
  exact hs
theorem f_X12_must_b21 {F : Nat}  {r : Int} {σ' : mMem}   {σ : mMem} (hf : g_X12_must_b21 F  σ = some (r, σ')) : ∀ q j, ¬ T_X12_must  q j → σ' q j = σ q j := by
  unfold g_X12_must_b21 at hf
  have hs : ∀ q j, ¬ T_X12_must  q j → σ q j = σ q j := fun _ _ _ => rfl
  refine f_ite hf (fun hf => ?_) (fun hf => ?_)
  · exact fun q j hq => (f_X12_must_b32 hf q j hq).trans (hs q j hq)
  · refine f_mob hf (fun r107 σ108 h1 hf => ?_)
    have hs := fun q j hq => (f_X12_ahead h1 q j (by unfold T_X12_must at hq; unfold T_X12_ahead; omega)).trans (hs q j hq)
    exact fun q j hq => (f_X12_must_b32 hf q j hq).trans (hs q j hq)
theorem f_X12_must {F : Nat}  {r : Int} {σ' : mMem} {x1 : Int} {σ : mMem} (hf : g_X12_must F x1 σ = some (r, σ')) : ∀ q j, ¬ T_X12_must  q j → σ' q j = σ q j := by
  unfold g_X12_must at hf
  have hs : ∀ q j, ¬ T_X12_must  q j → σ q j = σ q j := fun _ _ _ => rfl
  refine f_mob hf (fun r1 σ2 h1 hf => ?_)
  have hs := fun q j hq => (f_X12_lex h1 q j (by unfold T_X12_must at hq; unfold T_X12_lex; omega)).trans (hs q j hq)
  refine f_mob hf (fun r3 σ4 h1 hf => ?_)
  have hs := fun q j hq => (f_X12_isSign h1 q j (by unfold T_X12_isSign; exact id)).trans (hs q j hq)
  refine f_ite hf (fun hf => ?_) (fun hf => ?_)
  · exact fun q j hq => (f_X12_must_b21 hf q j hq).trans (hs q j hq)
  · refine f_mob hf (fun r5 σ6 h1 hf => ?_)
    have hs := fun q j hq => (f_X12_blame h1 q j (by unfold T_X12_must at hq; unfold T_X12_blame; omega)).trans (hs q j hq)
    exact fun q j hq => (f_X12_must_b21 hf q j hq).trans (hs q j hq)
def T_X12_isOwn  (q j : Nat) : Prop := False
theorem f_X12_isOwn_b40 {F : Nat}  {r : Int} {σ' : mMem}   {σ : mMem} (hf : g_X12_isOwn_b40 F  σ = some (r, σ')) : ∀ q j, ¬ T_X12_isOwn  q j → σ' q j = σ q j := by
  unfold g_X12_isOwn_b40 at hf
  have hs : ∀ q j, ¬ T_X12_isOwn  q j → σ q j = σ q j := fun _ _ _ => rfl
  refine f_gd hf (fun hf => ?_)
  cases hf
  exact hs
theorem f_X12_isOwn_b82 {F : Nat}  {r : Int} {σ' : mMem}   {σ : mMem} (hf : g_X12_isOwn_b82 F  σ = some (r, σ')) : ∀ q j, ¬ T_X12_isOwn  q j → σ' q j = σ q j := by
  unfold g_X12_isOwn_b82 at hf
  have hs : ∀ q j, ¬ T_X12_isOwn  q j → σ q j = σ q j := fun _ _ _ => rfl
  refine f_gd hf (fun hf => ?_)
  cases hf
  exact hs
theorem f_X12_isOwn_b124 {F : Nat}  {r : Int} {σ' : mMem}   {σ : mMem} (hf : g_X12_isOwn_b124 F  σ = some (r, σ')) : ∀ q j, ¬ T_X12_isOwn  q j → σ' q j = σ q j := by
  unfold g_X12_isOwn_b124 at hf
  have hs : ∀ q j, ¬ T_X12_isOwn  q j → σ q j = σ q j := fun _ _ _ => rfl
  refine f_gd hf (fun hf => ?_)
  cases hf
  exact hs
theorem f_X12_isOwn_b166 {F : Nat}  {r : Int} {σ' : mMem}   {σ : mMem} (hf : g_X12_isOwn_b166 F  σ = some (r, σ')) : ∀ q j, ¬ T_X12_isOwn  q j → σ' q j = σ q j := by
  unfold g_X12_isOwn_b166 at hf
  have hs : ∀ q j, ¬ T_X12_isOwn  q j → σ q j = σ q j := fun _ _ _ => rfl
  refine f_gd hf (fun hf => ?_)
  cases hf
  exact hs
theorem f_X12_isOwn_b208 {F : Nat}  {r : Int} {σ' : mMem}   {σ : mMem} (hf : g_X12_isOwn_b208 F  σ = some (r, σ')) : ∀ q j, ¬ T_X12_isOwn  q j → σ' q j = σ q j := by
  unfold g_X12_isOwn_b208 at hf
  have hs : ∀ q j, ¬ T_X12_isOwn  q j → σ q j = σ q j := fun _ _ _ => rfl
  refine f_gd hf (fun hf => ?_)
  cases hf
  exact hs
theorem f_X12_isOwn_b234 {F : Nat}  {r : Int} {σ' : mMem}   {σ : mMem} (hf : g_X12_isOwn_b234 F  σ = some (r, σ')) : ∀ q j, ¬ T_X12_isOwn  q j → σ' q j = σ q j := by
  unfold g_X12_isOwn_b234 at hf
  have hs : ∀ q j, ¬ T_X12_isOwn  q j → σ q j = σ q j := fun _ _ _ => rfl
  refine f_gd hf (fun hf => ?_)
  cases hf
  exact hs
theorem f_X12_isOwn {F : Nat}  {r : Int} {σ' : mMem} {x1 : Int} {σ : mMem} (hf : g_X12_isOwn F x1 σ = some (r, σ')) : ∀ q j, ¬ T_X12_isOwn  q j → σ' q j = σ q j := by
  unfold g_X12_isOwn at hf
  have hs : ∀ q j, ¬ T_X12_isOwn  q j → σ q j = σ q j := fun _ _ _ => rfl
  refine f_ite hf (fun hf => ?_) (fun hf => ?_)
  · exact fun q j hq => (f_X12_isOwn_b40 hf q j hq).trans (hs q j hq)
  · refine f_ite hf (fun hf => ?_) (fun hf => ?_)
    · exact fun q j hq => (f_X12_isOwn_b40 hf q j hq).trans (hs q j hq)
    · refine f_ite hf (fun hf => ?_) (fun hf => ?_)
      · exact fun q j hq => (f_X12_isOwn_b40 hf q j hq).trans (hs q j hq)
      · refine f_ite hf (fun hf => ?_) (fun hf => ?_)
        · exact fun q j hq => (f_X12_isOwn_b40 hf q j hq).trans (hs q j hq)
        · refine f_ite hf (fun hf => ?_) (fun hf => ?_)
          · refine f_ite hf (fun hf => ?_) (fun hf => ?_)
            · exact fun q j hq => (f_X12_isOwn_b82 hf q j hq).trans (hs q j hq)
            · refine f_ite hf (fun hf => ?_) (fun hf => ?_)
              · exact fun q j hq => (f_X12_isOwn_b82 hf q j hq).trans (hs q j hq)
              · refine f_ite hf (fun hf => ?_) (fun hf => ?_)
                · exact fun q j hq => (f_X12_isOwn_b82 hf q j hq).trans (hs q j hq)
                · refine f_ite hf (fun hf => ?_) (fun hf => ?_)
                  · exact fun q j hq => (f_X12_isOwn_b82 hf q j hq).trans (hs q j hq)
                  · refine f_ite hf (fun hf => ?_) (fun hf => ?_)
                    · refine f_ite hf (fun hf => ?_) (fun hf => ?_)
                      · exact fun q j hq => (f_X12_isOwn_b124 hf q j hq).trans (hs q j hq)
                      · refine f_ite hf (fun hf => ?_) (fun hf => ?_)
                        · exact fun q j hq => (f_X12_isOwn_b124 hf q j hq).trans (hs q j hq)
                        · refine f_ite hf (fun hf => ?_) (fun hf => ?_)
                          · exact fun q j hq => (f_X12_isOwn_b124 hf q j hq).trans (hs q j hq)
                          · refine f_ite hf (fun hf => ?_) (fun hf => ?_)
                            · exact fun q j hq => (f_X12_isOwn_b124 hf q j hq).trans (hs q j hq)
                            · refine f_ite hf (fun hf => ?_) (fun hf => ?_)
                              · refine f_ite hf (fun hf => ?_) (fun hf => ?_)
                                · exact fun q j hq => (f_X12_isOwn_b166 hf q j hq).trans (hs q j hq)
                                · refine f_ite hf (fun hf => ?_) (fun hf => ?_)
                                  · exact fun q j hq => (f_X12_isOwn_b166 hf q j hq).trans (hs q j hq)
                                  · refine f_ite hf (fun hf => ?_) (fun hf => ?_)
                                    · exact fun q j hq => (f_X12_isOwn_b166 hf q j hq).trans (hs q j hq)
                                    · refine f_ite hf (fun hf => ?_) (fun hf => ?_)
                                      · exact fun q j hq => (f_X12_isOwn_b166 hf q j hq).trans (hs q j hq)
                                      · refine f_ite hf (fun hf => ?_) (fun hf => ?_)
                                        · refine f_ite hf (fun hf => ?_) (fun hf => ?_)
                                          · exact fun q j hq => (f_X12_isOwn_b208 hf q j hq).trans (hs q j hq)
                                          · refine f_ite hf (fun hf => ?_) (fun hf => ?_)
                                            · exact fun q j hq => (f_X12_isOwn_b208 hf q j hq).trans (hs q j hq)
                                            · refine f_ite hf (fun hf => ?_) (fun hf => ?_)
                                              · exact fun q j hq => (f_X12_isOwn_b208 hf q j hq).trans (hs q j hq)
                                              · refine f_ite hf (fun hf => ?_) (fun hf => ?_)
                                                · exact fun q j hq => (f_X12_isOwn_b208 hf q j hq).trans (hs q j hq)
                                                · refine f_ite hf (fun hf => ?_) (fun hf => ?_)
                                                  · refine f_ite hf (fun hf => ?_) (fun hf => ?_)
                                                    · exact fun q j hq => (f_X12_isOwn_b234 hf q j hq).trans (hs q j hq)
                                                    · refine f_ite hf (fun hf => ?_) (fun hf => ?_)
                                                      · exact fun q j hq => (f_X12_isOwn_b234 hf q j hq).trans (hs q j hq)
                                                      · refine f_ite hf (fun hf => ?_) (fun hf => ?_)
                                                        · refine f_gd hf (fun hf => ?_)
                                                          cases hf
                                                          exact hs
                                                        · exact fun q j hq => (f_X12_isOwn_b234 hf q j hq).trans (hs q j hq)
                                                  · exact fun q j hq => (f_X12_isOwn_b208 hf q j hq).trans (hs q j hq)
                                        · exact fun q j hq => (f_X12_isOwn_b166 hf q j hq).trans (hs q j hq)
                              · exact fun q j hq => (f_X12_isOwn_b124 hf q j hq).trans (hs q j hq)
                    · exact fun q j hq => (f_X12_isOwn_b82 hf q j hq).trans (hs q j hq)
          · exact fun q j hq => (f_X12_isOwn_b40 hf q j hq).trans (hs q j hq)
def T_X12_isDefault  (q j : Nat) : Prop := q = 97
theorem f_X12_isDefault {F : Nat}  {r : Int} {σ' : mMem} {x1 : Int} {σ : mMem} (hf : g_X12_isDefault F x1 σ = some (r, σ')) : ∀ q j, ¬ T_X12_isDefault  q j → σ' q j = σ q j := by
  unfold g_X12_isDefault at hf
  have hs : ∀ q j, ¬ T_X12_isDefault  q j → σ q j = σ q j := fun _ _ _ => rfl
  refine f_gd hf (fun hf => ?_)
  refine f_mem hf (fun q j hq => (mup_ne (by unfold T_X12_isDefault at hq; omega)).trans (hs q j hq)) (fun σ1 hs hf => ?_)
  refine f_gd hf (fun hf => ?_)
  refine f_mem hf (fun q j hq => (mup_ne (by unfold T_X12_isDefault at hq; omega)).trans (hs q j hq)) (fun σ2 hs hf => ?_)
  refine f_gd hf (fun hf => ?_)
  refine f_mem hf (fun q j hq => (mup_ne (by unfold T_X12_isDefault at hq; omega)).trans (hs q j hq)) (fun σ3 hs hf => ?_)
  cases hf
  exact hs
def T_X12_toldOf  (q j : Nat) : Prop := False
theorem f_X12_toldOf {F : Nat}  {r : Int} {σ' : mMem} {x1 : Int} {σ : mMem} (hf : g_X12_toldOf F x1 σ = some (r, σ')) : ∀ q j, ¬ T_X12_toldOf  q j → σ' q j = σ q j := by
  unfold g_X12_toldOf at hf
  have hs : ∀ q j, ¬ T_X12_toldOf  q j → σ q j = σ q j := fun _ _ _ => rfl
  refine f_gd hf (fun hf => ?_)
  cases hf
  exact hs
def T_X12_named  (q j : Nat) : Prop := False
theorem f_X12_named_h2 {F : Nat}  {r : Int} {σ' : mMem}   (n : Nat) : ∀ {x1 x3 : Int} {σ : mMem} (_ : g_X12_named_h2 F n x1 x3 σ = some (r, σ')), ∀ q j, ¬ T_X12_named  q j → σ' q j = σ q j := by
  induction n with
  | zero =>
    intro x1 x3 σ hf
    unfold g_X12_named_h2 at hf
    cases hf
  | succ n ih =>
    have hk2 : ∀ (x1 x3 : Int) (σ : mMem), g_X12_named_h2 F n x1 x3 σ = some (r, σ') → ∀ q j, ¬ T_X12_named  q j → σ' q j = σ q j := fun x1 x3 σ hf => ih hf
    intro x1 x3 σ hf
    unfold g_X12_named_h2 at hf
    have hs : ∀ q j, ¬ T_X12_named  q j → σ q j = σ q j := fun _ _ _ => rfl
    refine f_gd hf (fun hf => ?_)
    refine f_ite hf (fun hf => ?_) (fun hf => ?_)
    · cases hf
      exact hs
    · refine f_gd hf (fun hf => ?_)
      refine f_ite hf (fun hf => ?_) (fun hf => ?_)
      · exact fun q j hq => (hk2 _ _ _ hf q j hq).trans (hs q j hq)
      · cases hf
        exact hs
theorem f_X12_named {F : Nat}  {r : Int} {σ' : mMem} {x1 : Int} {σ : mMem} (hf : g_X12_named F x1 σ = some (r, σ')) : ∀ q j, ¬ T_X12_named  q j → σ' q j = σ q j := by
  unfold g_X12_named at hf
  have hs : ∀ q j, ¬ T_X12_named  q j → σ q j = σ q j := fun _ _ _ => rfl
  exact fun q j hq => (f_X12_named_h2 _ hf q j hq).trans (hs q j hq)
def T_X12_number  (q j : Nat) : Prop := (q = 86 ∧ (j = 3 ∨ j = 4 ∨ j = 5 ∨ j = 6 ∨ j = 7 ∨ j = 8 ∨ j = 9 ∨ j = 12))
theorem f_X12_number_b74 {F : Nat}  {r : Int} {σ' : mMem}   {x3 : Int} {σ : mMem} (hf : g_X12_number_b74 F x3 σ = some (r, σ')) : ∀ q j, ¬ T_X12_number  q j → σ' q j = σ q j := by
  unfold g_X12_number_b74 at hf
  have hs : ∀ q j, ¬ T_X12_number  q j → σ q j = σ q j := fun _ _ _ => rfl
  cases hf
  exact hs
theorem f_X12_number_b58 {F : Nat}  {r : Int} {σ' : mMem}   {σ : mMem} (hf : g_X12_number_b58 F  σ = some (r, σ')) : ∀ q j, ¬ T_X12_number  q j → σ' q j = σ q j := by
  unfold g_X12_number_b58 at hf
  have hs : ∀ q j, ¬ T_X12_number  q j → σ q j = σ q j := fun _ _ _ => rfl
  refine f_let hf (fun y209 hf => ?_)
  refine f_ite hf (fun hf => ?_) (fun hf => ?_)
  · exact fun q j hq => (f_X12_number_b74 hf q j hq).trans (hs q j hq)
  · refine f_mob hf (fun r210 σ211 h1 hf => ?_)
    have hs := fun q j hq => (f_X12_ahead h1 q j (by unfold T_X12_number at hq; unfold T_X12_ahead; omega)).trans (hs q j hq)
    exact fun q j hq => (f_X12_number_b74 hf q j hq).trans (hs q j hq)
theorem f_X12_number_b30 {F : Nat}  {r : Int} {σ' : mMem}   {x1 x2 : Int} {σ : mMem} (hf : g_X12_number_b30 F x1 x2 σ = some (r, σ')) : ∀ q j, ¬ T_X12_number  q j → σ' q j = σ q j := by
  unfold g_X12_number_b30 at hf
  have hs : ∀ q j, ¬ T_X12_number  q j → σ q j = σ q j := fun _ _ _ => rfl
  refine f_ite hf (fun hf => ?_) (fun hf => ?_)
  · exact fun q j hq => (f_X12_number_b58 hf q j hq).trans (hs q j hq)
  · refine f_mob hf (fun r105 σ106 h1 hf => ?_)
    have hs := fun q j hq => (f_X12_is h1 q j (by unfold T_X12_is; exact id)).trans (hs q j hq)
    refine f_ite hf (fun hf => ?_) (fun hf => ?_)
    · exact fun q j hq => (f_X12_number_b58 hf q j hq).trans (hs q j hq)
    · refine f_mob hf (fun r107 σ108 h1 hf => ?_)
      have hs := fun q j hq => (f_X12_blame h1 q j (by unfold T_X12_number at hq; unfold T_X12_blame; omega)).trans (hs q j hq)
      exact fun q j hq => (f_X12_number_b58 hf q j hq).trans (hs q j hq)
theorem f_X12_number {F : Nat}  {r : Int} {σ' : mMem} {x1 x2 : Int} {σ : mMem} (hf : g_X12_number F x1 x2 σ = some (r, σ')) : ∀ q j, ¬ T_X12_number  q j → σ' q j = σ q j := by
  unfold g_X12_number at hf
  have hs : ∀ q j, ¬ T_X12_number  q j → σ q j = σ q j := fun _ _ _ => rfl
  refine f_mob hf (fun r1 σ2 h1 hf => ?_)
  have hs := fun q j hq => (f_X12_lex h1 q j (by unfold T_X12_number at hq; unfold T_X12_lex; omega)).trans (hs q j hq)
  refine f_ite hf (fun hf => ?_) (fun hf => ?_)
  · refine f_ite hf (fun hf => ?_) (fun hf => ?_)
    · exact fun q j hq => (f_X12_number_b30 hf q j hq).trans (hs q j hq)
    · refine f_mob hf (fun r3 σ4 h1 hf => ?_)
      have hs := fun q j hq => (f_X12_blame h1 q j (by unfold T_X12_number at hq; unfold T_X12_blame; omega)).trans (hs q j hq)
      exact fun q j hq => (f_X12_number_b30 hf q j hq).trans (hs q j hq)
  · cases hf
    exact hs
def T_X12_add  (q j : Nat) : Prop := (q = 86 ∧ (j = 29)) ∨ q = 100 ∨ q = 101
theorem f_X12_add {F : Nat}  {r : Int} {σ' : mMem} {x1 x2 : Int} {σ : mMem} (hf : g_X12_add F x1 x2 σ = some (r, σ')) : ∀ q j, ¬ T_X12_add  q j → σ' q j = σ q j := by
  unfold g_X12_add at hf
  have hs : ∀ q j, ¬ T_X12_add  q j → σ q j = σ q j := fun _ _ _ => rfl
  refine f_gd hf (fun hf => ?_)
  refine f_mem hf (fun q j hq => (mup_ne (by unfold T_X12_add at hq; omega)).trans (hs q j hq)) (fun σ1 hs hf => ?_)
  refine f_gd hf (fun hf => ?_)
  refine f_mem hf (fun q j hq => (mup_ne (by unfold T_X12_add at hq; omega)).trans (hs q j hq)) (fun σ2 hs hf => ?_)
  refine f_mem hf (fun q j hq => (mup_ne (by unfold T_X12_add at hq; omega)).trans (hs q j hq)) (fun σ3 hs hf => ?_)
  cases hf
  exact hs
def T_X12_rank  (q j : Nat) : Prop := False
theorem f_X12_rank_b70 {F : Nat}  {r : Int} {σ' : mMem}   {t0 : Int} {σ : mMem} (hf : g_X12_rank_b70 F t0 σ = some (r, σ')) : ∀ q j, ¬ T_X12_rank  q j → σ' q j = σ q j := by
  unfold g_X12_rank_b70 at hf
  have hs : ∀ q j, ¬ T_X12_rank  q j → σ q j = σ q j := fun _ _ _ => rfl
  cases hf
  exact hs
theorem f_X12_rank_b48 {F : Nat}  {r : Int} {σ' : mMem}   {σ : mMem} (hf : g_X12_rank_b48 F  σ = some (r, σ')) : ∀ q j, ¬ T_X12_rank  q j → σ' q j = σ q j := by
  unfold g_X12_rank_b48 at hf
  have hs : ∀ q j, ¬ T_X12_rank  q j → σ q j = σ q j := fun _ _ _ => rfl
  exact fun q j hq => (f_X12_rank_b70 hf q j hq).trans (hs q j hq)
theorem f_X12_rank_b64 {F : Nat}  {r : Int} {σ' : mMem}   {σ : mMem} (hf : g_X12_rank_b64 F  σ = some (r, σ')) : ∀ q j, ¬ T_X12_rank  q j → σ' q j = σ q j := by
  unfold g_X12_rank_b64 at hf
  have hs : ∀ q j, ¬ T_X12_rank  q j → σ q j = σ q j := fun _ _ _ => rfl
  exact fun q j hq => (f_X12_rank_b70 hf q j hq).trans (hs q j hq)
theorem f_X12_rank {F : Nat}  {r : Int} {σ' : mMem} {x0 : Int} {σ : mMem} (hf : g_X12_rank F x0 σ = some (r, σ')) : ∀ q j, ¬ T_X12_rank  q j → σ' q j = σ q j := by
  unfold g_X12_rank at hf
  have hs : ∀ q j, ¬ T_X12_rank  q j → σ q j = σ q j := fun _ _ _ => rfl
  refine f_ite hf (fun hf => ?_) (fun hf => ?_)
  · refine f_ite hf (fun hf => ?_) (fun hf => ?_)
    · refine f_ite hf (fun hf => ?_) (fun hf => ?_)
      · refine f_ite hf (fun hf => ?_) (fun hf => ?_)
        · exact fun q j hq => (f_X12_rank_b48 hf q j hq).trans (hs q j hq)
        · refine f_ite hf (fun hf => ?_) (fun hf => ?_)
          · exact fun q j hq => (f_X12_rank_b48 hf q j hq).trans (hs q j hq)
          · refine f_ite hf (fun hf => ?_) (fun hf => ?_)
            · refine f_ite hf (fun hf => ?_) (fun hf => ?_)
              · exact fun q j hq => (f_X12_rank_b64 hf q j hq).trans (hs q j hq)
              · refine f_ite hf (fun hf => ?_) (fun hf => ?_)
                · exact fun q j hq => (f_X12_rank_b70 hf q j hq).trans (hs q j hq)
                · exact fun q j hq => (f_X12_rank_b64 hf q j hq).trans (hs q j hq)
            · exact fun q j hq => (f_X12_rank_b48 hf q j hq).trans (hs q j hq)
      · exact fun q j hq => (f_X12_rank_b70 hf q j hq).trans (hs q j hq)
    · exact fun q j hq => (f_X12_rank_b70 hf q j hq).trans (hs q j hq)
  · exact fun q j hq => (f_X12_rank_b70 hf q j hq).trans (hs q j hq)
def T_X12_joins  (q j : Nat) : Prop := (q = 86 ∧ (j = 29 ∨ j = 38 ∨ j = 40)) ∨ q = 100 ∨ q = 101
theorem f_X12_joins_b87 {F : Nat}  {r : Int} {σ' : mMem}   {σ : mMem} (hf : g_X12_joins_b87 F  σ = some (r, σ')) : ∀ q j, ¬ T_X12_joins  q j → σ' q j = σ q j := by
  unfold g_X12_joins_b87 at hf
  have hs : ∀ q j, ¬ T_X12_joins  q j → σ q j = σ q j := fun _ _ _ => rfl
  cases hf
  exact hs
theorem f_X12_joins_h0 {F : Nat}  {r : Int} {σ' : mMem}   (n : Nat) : ∀ {x1 : Int} {σ : mMem} (_ : g_X12_joins_h0 F n x1 σ = some (r, σ')), ∀ q j, ¬ T_X12_joins  q j → σ' q j = σ q j := by
  induction n with
  | zero =>
    intro x1 σ hf
    unfold g_X12_joins_h0 at hf
    cases hf
  | succ n ih =>
    have hk0 : ∀ (x1 : Int) (σ : mMem), g_X12_joins_h0 F n x1 σ = some (r, σ') → ∀ q j, ¬ T_X12_joins  q j → σ' q j = σ q j := fun x1 σ hf => ih hf
    intro x1 σ hf
    unfold g_X12_joins_h0 at hf
    have hs : ∀ q j, ¬ T_X12_joins  q j → σ q j = σ q j := fun _ _ _ => rfl
    refine f_gd hf (fun hf => ?_)
    refine f_ite hf (fun hf => ?_) (fun hf => ?_)
    · exact fun q j hq => (f_X12_joins_b87 hf q j hq).trans (hs q j hq)
    · refine f_gd hf (fun hf => ?_)
      refine f_mob hf (fun r101 σ102 h1 hf => ?_)
      have hs := fun q j hq => (f_X12_rank h1 q j (by unfold T_X12_rank; exact id)).trans (hs q j hq)
      refine f_ite hf (fun hf => ?_) (fun hf => ?_)
      · exact fun q j hq => (f_X12_joins_b87 hf q j hq).trans (hs q j hq)
      · refine f_mem hf (fun q j hq => (mup_ne (by unfold T_X12_joins at hq; omega)).trans (hs q j hq)) (fun σ103 hs hf => ?_)
        refine f_gd hf (fun hf => ?_)
        refine f_mob hf (fun r104 σ105 h1 hf => ?_)
        have hs := fun q j hq => (f_X12_add h1 q j (by unfold T_X12_joins at hq; unfold T_X12_add; omega)).trans (hs q j hq)
        refine f_gd hf (fun hf => ?_)
        refine f_ite hf (fun hf => ?_) (fun hf => ?_)
        · exact fun q j hq => (hk0 _ _ hf q j hq).trans (hs q j hq)
        · refine f_mem hf (fun q j hq => (mup_ne (by unfold T_X12_joins at hq; omega)).trans (hs q j hq)) (fun σ106 hs hf => ?_)
          exact fun q j hq => (hk0 _ _ hf q j hq).trans (hs q j hq)
theorem f_X12_joins {F : Nat}  {r : Int} {σ' : mMem} {x1 : Int} {σ : mMem} (hf : g_X12_joins F x1 σ = some (r, σ')) : ∀ q j, ¬ T_X12_joins  q j → σ' q j = σ q j := by
  unfold g_X12_joins at hf
  have hs : ∀ q j, ¬ T_X12_joins  q j → σ q j = σ q j := fun _ _ _ => rfl
  exact fun q j hq => (f_X12_joins_h0 _ hf q j hq).trans (hs q j hq)
def T_X12_holdsBack  (q j : Nat) : Prop := (q = 86 ∧ (j = 40)) ∨ q = 108
theorem f_X12_holdsBack {F : Nat}  {r : Int} {σ' : mMem} {x1 : Int} {σ : mMem} (hf : g_X12_holdsBack F x1 σ = some (r, σ')) : ∀ q j, ¬ T_X12_holdsBack  q j → σ' q j = σ q j := by
  unfold g_X12_holdsBack at hf
  have hs : ∀ q j, ¬ T_X12_holdsBack  q j → σ q j = σ q j := fun _ _ _ => rfl
  refine f_gd hf (fun hf => ?_)
  refine f_mem hf (fun q j hq => (mup_ne (by unfold T_X12_holdsBack at hq; omega)).trans (hs q j hq)) (fun σ1 hs hf => ?_)
  refine f_mem hf (fun q j hq => (mup_ne (by unfold T_X12_holdsBack at hq; omega)).trans (hs q j hq)) (fun σ2 hs hf => ?_)
  cases hf
  exact hs
def T_X12_pushes  (q j : Nat) : Prop := (q = 86 ∧ (j = 37)) ∨ q = 103 ∨ q = 104 ∨ q = 105 ∨ q = 107
theorem f_X12_pushes {F : Nat}  {r : Int} {σ' : mMem} {x1 : Int} {σ : mMem} (hf : g_X12_pushes F x1 σ = some (r, σ')) : ∀ q j, ¬ T_X12_pushes  q j → σ' q j = σ q j := by
  unfold g_X12_pushes at hf
  have hs : ∀ q j, ¬ T_X12_pushes  q j → σ q j = σ q j := fun _ _ _ => rfl
  refine f_gd hf (fun hf => ?_)
  refine f_mem hf (fun q j hq => (mup_ne (by unfold T_X12_pushes at hq; omega)).trans (hs q j hq)) (fun σ1 hs hf => ?_)
  refine f_gd hf (fun hf => ?_)
  refine f_mem hf (fun q j hq => (mup_ne (by unfold T_X12_pushes at hq; omega)).trans (hs q j hq)) (fun σ2 hs hf => ?_)
  refine f_gd hf (fun hf => ?_)
  refine f_mem hf (fun q j hq => (mup_ne (by unfold T_X12_pushes at hq; omega)).trans (hs q j hq)) (fun σ3 hs hf => ?_)
  refine f_gd hf (fun hf => ?_)
  refine f_mem hf (fun q j hq => (mup_ne (by unfold T_X12_pushes at hq; omega)).trans (hs q j hq)) (fun σ4 hs hf => ?_)
  refine f_mem hf (fun q j hq => (mup_ne (by unfold T_X12_pushes at hq; omega)).trans (hs q j hq)) (fun σ5 hs hf => ?_)
  cases hf
  exact hs
def T_X12_opens  (q j : Nat) : Prop := (q = 86 ∧ (j = 3 ∨ j = 4 ∨ j = 5 ∨ j = 6 ∨ j = 7 ∨ j = 8 ∨ j = 9 ∨ j = 12 ∨ j = 37 ∨ j = 38)) ∨ q = 103 ∨ q = 104 ∨ q = 105 ∨ q = 107
theorem f_X12_opens_b18 {F : Nat}  {r : Int} {σ' : mMem}   {x1 : Int} {σ : mMem} (hf : g_X12_opens_b18 F x1 σ = some (r, σ')) : ∀ q j, ¬ T_X12_opens  q j → σ' q j = σ q j := by
  unfold g_X12_opens_b18 at hf
  have hs : ∀ q j, ¬ T_X12_opens  q j → σ q j = σ q j := fun _ _ _ => rfl
  refine f_ite hf (fun hf => ?_) (fun hf => ?_)
  · refine f_mem hf (fun q j hq => (mup_ne (by unfold T_X12_opens at hq; omega)).trans (hs q j hq)) (fun σ103 hs hf => ?_)
    refine f_mob hf (fun r104 σ105 h1 hf => ?_)
    have hs := fun q j hq => (f_X12_ahead h1 q j (by unfold T_X12_opens at hq; unfold T_X12_ahead; omega)).trans (hs q j hq)
    refine f_mob hf (fun r106 σ107 h1 hf => ?_)
    have hs := fun q j hq => (f_X12_pushes h1 q j (by unfold T_X12_opens at hq; unfold T_X12_pushes; omega)).trans (hs q j hq)
    cases hf
    exact hs
  · cases hf
    exact hs
theorem f_X12_opens {F : Nat}  {r : Int} {σ' : mMem} {x1 : Int} {σ : mMem} (hf : g_X12_opens F x1 σ = some (r, σ')) : ∀ q j, ¬ T_X12_opens  q j → σ' q j = σ q j := by
  unfold g_X12_opens at hf
  have hs : ∀ q j, ¬ T_X12_opens  q j → σ q j = σ q j := fun _ _ _ => rfl
  refine f_ite hf (fun hf => ?_) (fun hf => ?_)
  · exact fun q j hq => (f_X12_opens_b18 hf q j hq).trans (hs q j hq)
  · refine f_mob hf (fun r1 σ2 h1 hf => ?_)
    have hs := fun q j hq => (f_X12_blame h1 q j (by unfold T_X12_opens at hq; unfold T_X12_blame; omega)).trans (hs q j hq)
    exact fun q j hq => (f_X12_opens_b18 hf q j hq).trans (hs q j hq)
def T_X12_isTest  (q j : Nat) : Prop := False
theorem f_X12_isTest_b21 {F : Nat}  {r : Int} {σ' : mMem}   {t0 : Int} {σ : mMem} (hf : g_X12_isTest_b21 F t0 σ = some (r, σ')) : ∀ q j, ¬ T_X12_isTest  q j → σ' q j = σ q j := by
  unfold g_X12_isTest_b21 at hf
  have hs : ∀ q j, ¬ T_X12_isTest  q j → σ q j = σ q j := fun _ _ _ => rfl
  refine f_gd hf (fun hf => ?_)
  cases hf
  exact hs
theorem f_X12_isTest_b16 {F : Nat}  {r : Int} {σ' : mMem}   {σ : mMem} (hf : g_X12_isTest_b16 F  σ = some (r, σ')) : ∀ q j, ¬ T_X12_isTest  q j → σ' q j = σ q j := by
  unfold g_X12_isTest_b16 at hf
  have hs : ∀ q j, ¬ T_X12_isTest  q j → σ q j = σ q j := fun _ _ _ => rfl
  exact fun q j hq => (f_X12_isTest_b21 hf q j hq).trans (hs q j hq)
theorem f_X12_isTest {F : Nat}  {r : Int} {σ' : mMem} {x0 : Int} {σ : mMem} (hf : g_X12_isTest F x0 σ = some (r, σ')) : ∀ q j, ¬ T_X12_isTest  q j → σ' q j = σ q j := by
  unfold g_X12_isTest at hf
  have hs : ∀ q j, ¬ T_X12_isTest  q j → σ q j = σ q j := fun _ _ _ => rfl
  refine f_ite hf (fun hf => ?_) (fun hf => ?_)
  · exact fun q j hq => (f_X12_isTest_b16 hf q j hq).trans (hs q j hq)
  · refine f_ite hf (fun hf => ?_) (fun hf => ?_)
    · exact fun q j hq => (f_X12_isTest_b16 hf q j hq).trans (hs q j hq)
    · refine f_ite hf (fun hf => ?_) (fun hf => ?_)
      · exact fun q j hq => (f_X12_isTest_b21 hf q j hq).trans (hs q j hq)
      · exact fun q j hq => (f_X12_isTest_b16 hf q j hq).trans (hs q j hq)
def T_X12_operand  (q j : Nat) : Prop := (q = 86 ∧ (j = 3 ∨ j = 4 ∨ j = 5 ∨ j = 6 ∨ j = 7 ∨ j = 8 ∨ j = 9 ∨ j = 12 ∨ j = 29 ∨ j = 37 ∨ j = 38 ∨ j = 40)) ∨ q = 100 ∨ q = 101 ∨ q = 103 ∨ q = 104 ∨ q = 105 ∨ q = 106 ∨ q = 107 ∨ q = 108
theorem f_X12_operand_b311 {F : Nat}  {r : Int} {σ' : mMem}   {σ : mMem} (hf : g_X12_operand_b311 F  σ = some (r, σ')) : ∀ q j, ¬ T_X12_operand  q j → σ' q j = σ q j := by
  unfold g_X12_operand_b311 at hf
  have hs : ∀ q j, ¬ T_X12_operand  q j → σ q j = σ q j := fun _ _ _ => rfl
  refine f_gd hf (fun hf => ?_)
  cases hf
  exact hs
theorem f_X12_operand_b289 {F : Nat}  {r : Int} {σ' : mMem}   {x3 t0 : Int} {σ : mMem} (hf : g_X12_operand_b289 F x3 t0 σ = some (r, σ')) : ∀ q j, ¬ T_X12_operand  q j → σ' q j = σ q j := by
  unfold g_X12_operand_b289 at hf
  have hs : ∀ q j, ¬ T_X12_operand  q j → σ q j = σ q j := fun _ _ _ => rfl
  refine f_mob hf (fun r1369 σ1370 h1 hf => ?_)
  have hs := fun q j hq => (f_X12_opens h1 q j (by unfold T_X12_operand at hq; unfold T_X12_opens; omega)).trans (hs q j hq)
  refine f_ite hf (fun hf => ?_) (fun hf => ?_)
  · exact fun q j hq => (f_X12_operand_b311 hf q j hq).trans (hs q j hq)
  · refine f_gd hf (fun hf => ?_)
    refine f_mem hf (fun q j hq => (mup_ne (by unfold T_X12_operand at hq; omega)).trans (hs q j hq)) (fun σ1371 hs hf => ?_)
    exact fun q j hq => (f_X12_operand_b311 hf q j hq).trans (hs q j hq)
theorem f_X12_operand_b276 {F : Nat}  {r : Int} {σ' : mMem}   {x3 : Int} {σ : mMem} (hf : g_X12_operand_b276 F x3 σ = some (r, σ')) : ∀ q j, ¬ T_X12_operand  q j → σ' q j = σ q j := by
  unfold g_X12_operand_b276 at hf
  have hs : ∀ q j, ¬ T_X12_operand  q j → σ q j = σ q j := fun _ _ _ => rfl
  refine f_ite hf (fun hf => ?_) (fun hf => ?_)
  · exact fun q j hq => (f_X12_operand_b289 hf q j hq).trans (hs q j hq)
  · exact fun q j hq => (f_X12_operand_b289 hf q j hq).trans (hs q j hq)
theorem f_X12_operand_b249 {F : Nat}  {r : Int} {σ' : mMem}   {t0 : Int} {σ : mMem} (hf : g_X12_operand_b249 F t0 σ = some (r, σ')) : ∀ q j, ¬ T_X12_operand  q j → σ' q j = σ q j := by
  unfold g_X12_operand_b249 at hf
  have hs : ∀ q j, ¬ T_X12_operand  q j → σ q j = σ q j := fun _ _ _ => rfl
  refine f_mob hf (fun r955 σ956 h1 hf => ?_)
  have hs := fun q j hq => (f_X12_ahead h1 q j (by unfold T_X12_operand at hq; unfold T_X12_ahead; omega)).trans (hs q j hq)
  refine f_mob hf (fun r957 σ958 h1 hf => ?_)
  have hs := fun q j hq => (f_X12_lex h1 q j (by unfold T_X12_operand at hq; unfold T_X12_lex; omega)).trans (hs q j hq)
  refine f_mob hf (fun r959 σ960 h1 hf => ?_)
  have hs := fun q j hq => (f_X12_isSign h1 q j (by unfold T_X12_isSign; exact id)).trans (hs q j hq)
  refine f_ite hf (fun hf => ?_) (fun hf => ?_)
  · exact fun q j hq => (f_X12_operand_b276 hf q j hq).trans (hs q j hq)
  · refine f_mob hf (fun r961 σ962 h1 hf => ?_)
    have hs := fun q j hq => (f_X12_blame h1 q j (by unfold T_X12_operand at hq; unfold T_X12_blame; omega)).trans (hs q j hq)
    exact fun q j hq => (f_X12_operand_b276 hf q j hq).trans (hs q j hq)
theorem f_X12_operand_b217 {F : Nat}  {r : Int} {σ' : mMem}   {σ : mMem} (hf : g_X12_operand_b217 F  σ = some (r, σ')) : ∀ q j, ¬ T_X12_operand  q j → σ' q j = σ q j := by
  unfold g_X12_operand_b217 at hf
  have hs : ∀ q j, ¬ T_X12_operand  q j → σ q j = σ q j := fun _ _ _ => rfl
  refine f_mob hf (fun r751 σ752 h1 hf => ?_)
  have hs := fun q j hq => (f_X12_isWord h1 q j (by unfold T_X12_isWord; exact id)).trans (hs q j hq)
  refine f_ite hf (fun hf => ?_) (fun hf => ?_)
  · refine f_mob hf (fun r753 σ754 h1 hf => ?_)
    have hs := fun q j hq => (f_X12_isWord h1 q j (by unfold T_X12_isWord; exact id)).trans (hs q j hq)
    refine f_ite hf (fun hf => ?_) (fun hf => ?_)
    · exact fun q j hq => (f_X12_operand_b249 hf q j hq).trans (hs q j hq)
    · exact fun q j hq => (f_X12_operand_b249 hf q j hq).trans (hs q j hq)
  · exact fun q j hq => (f_X12_operand_b249 hf q j hq).trans (hs q j hq)
theorem f_X12_operand_b455 {F : Nat}  {r : Int} {σ' : mMem}   {x3 : Int} {σ : mMem} (hf : g_X12_operand_b455 F x3 σ = some (r, σ')) : ∀ q j, ¬ T_X12_operand  q j → σ' q j = σ q j := by
  unfold g_X12_operand_b455 at hf
  have hs : ∀ q j, ¬ T_X12_operand  q j → σ q j = σ q j := fun _ _ _ => rfl
  refine f_ite hf (fun hf => ?_) (fun hf => ?_)
  · refine f_mob hf (fun r1265 σ1266 h1 hf => ?_)
    have hs := fun q j hq => (f_X12_add h1 q j (by unfold T_X12_operand at hq; unfold T_X12_add; omega)).trans (hs q j hq)
    refine f_mob hf (fun r1267 σ1268 h1 hf => ?_)
    have hs := fun q j hq => (f_X12_ahead h1 q j (by unfold T_X12_operand at hq; unfold T_X12_ahead; omega)).trans (hs q j hq)
    refine f_gd hf (fun hf => ?_)
    cases hf
    exact hs
  · refine f_gd hf (fun hf => ?_)
    cases hf
    exact hs
theorem f_X12_operand_b441 {F : Nat}  {r : Int} {σ' : mMem}   {x3 : Int} {σ : mMem} (hf : g_X12_operand_b441 F x3 σ = some (r, σ')) : ∀ q j, ¬ T_X12_operand  q j → σ' q j = σ q j := by
  unfold g_X12_operand_b441 at hf
  have hs : ∀ q j, ¬ T_X12_operand  q j → σ q j = σ q j := fun _ _ _ => rfl
  refine f_ite hf (fun hf => ?_) (fun hf => ?_)
  · exact fun q j hq => (f_X12_operand_b455 hf q j hq).trans (hs q j hq)
  · refine f_mob hf (fun r1063 σ1064 h1 hf => ?_)
    have hs := fun q j hq => (f_X12_blame h1 q j (by unfold T_X12_operand at hq; unfold T_X12_blame; omega)).trans (hs q j hq)
    exact fun q j hq => (f_X12_operand_b455 hf q j hq).trans (hs q j hq)
theorem f_X12_operand_b426 {F : Nat}  {r : Int} {σ' : mMem}   {t0 : Int} {σ : mMem} (hf : g_X12_operand_b426 F t0 σ = some (r, σ')) : ∀ q j, ¬ T_X12_operand  q j → σ' q j = σ q j := by
  unfold g_X12_operand_b426 at hf
  have hs : ∀ q j, ¬ T_X12_operand  q j → σ q j = σ q j := fun _ _ _ => rfl
  refine f_ite hf (fun hf => ?_) (fun hf => ?_)
  · exact fun q j hq => (f_X12_operand_b441 hf q j hq).trans (hs q j hq)
  · refine f_ite hf (fun hf => ?_) (fun hf => ?_)
    · exact fun q j hq => (f_X12_operand_b441 hf q j hq).trans (hs q j hq)
    · exact fun q j hq => (f_X12_operand_b441 hf q j hq).trans (hs q j hq)
theorem f_X12_operand_b171 {F : Nat}  {r : Int} {σ' : mMem}   {σ : mMem} (hf : g_X12_operand_b171 F  σ = some (r, σ')) : ∀ q j, ¬ T_X12_operand  q j → σ' q j = σ q j := by
  unfold g_X12_operand_b171 at hf
  have hs : ∀ q j, ¬ T_X12_operand  q j → σ q j = σ q j := fun _ _ _ => rfl
  refine f_mob hf (fun r627 σ628 h1 hf => ?_)
  have hs := fun q j hq => (f_X12_isSign h1 q j (by unfold T_X12_isSign; exact id)).trans (hs q j hq)
  refine f_ite hf (fun hf => ?_) (fun hf => ?_)
  · refine f_mob hf (fun r629 σ630 h1 hf => ?_)
    have hs := fun q j hq => (f_X12_isWord h1 q j (by unfold T_X12_isWord; exact id)).trans (hs q j hq)
    refine f_ite hf (fun hf => ?_) (fun hf => ?_)
    · exact fun q j hq => (f_X12_operand_b217 hf q j hq).trans (hs q j hq)
    · refine f_mob hf (fun r631 σ632 h1 hf => ?_)
      have hs := fun q j hq => (f_X12_isWord h1 q j (by unfold T_X12_isWord; exact id)).trans (hs q j hq)
      refine f_ite hf (fun hf => ?_) (fun hf => ?_)
      · exact fun q j hq => (f_X12_operand_b217 hf q j hq).trans (hs q j hq)
      · refine f_mob hf (fun r633 σ634 h1 hf => ?_)
        have hs := fun q j hq => (f_X12_isWord h1 q j (by unfold T_X12_isWord; exact id)).trans (hs q j hq)
        refine f_ite hf (fun hf => ?_) (fun hf => ?_)
        · refine f_ite hf (fun hf => ?_) (fun hf => ?_)
          · refine f_mob hf (fun r635 σ636 h1 hf => ?_)
            have hs := fun q j hq => (f_X12_isWord h1 q j (by unfold T_X12_isWord; exact id)).trans (hs q j hq)
            refine f_ite hf (fun hf => ?_) (fun hf => ?_)
            · refine f_mob hf (fun r637 σ638 h1 hf => ?_)
              have hs := fun q j hq => (f_X12_isWord h1 q j (by unfold T_X12_isWord; exact id)).trans (hs q j hq)
              refine f_ite hf (fun hf => ?_) (fun hf => ?_)
              · refine f_mob hf (fun r639 σ640 h1 hf => ?_)
                have hs := fun q j hq => (f_X12_isWord h1 q j (by unfold T_X12_isWord; exact id)).trans (hs q j hq)
                refine f_ite hf (fun hf => ?_) (fun hf => ?_)
                · refine f_mob hf (fun r641 σ642 h1 hf => ?_)
                  have hs := fun q j hq => (f_X12_isWord h1 q j (by unfold T_X12_isWord; exact id)).trans (hs q j hq)
                  refine f_ite hf (fun hf => ?_) (fun hf => ?_)
                  · refine f_mob hf (fun r643 σ644 h1 hf => ?_)
                    have hs := fun q j hq => (f_X12_isWord h1 q j (by unfold T_X12_isWord; exact id)).trans (hs q j hq)
                    refine f_ite hf (fun hf => ?_) (fun hf => ?_)
                    · refine f_mob hf (fun r645 σ646 h1 hf => ?_)
                      have hs := fun q j hq => (f_X12_isWord h1 q j (by unfold T_X12_isWord; exact id)).trans (hs q j hq)
                      refine f_ite hf (fun hf => ?_) (fun hf => ?_)
                      · refine f_mob hf (fun r647 σ648 h1 hf => ?_)
                        have hs := fun q j hq => (f_X12_isWord h1 q j (by unfold T_X12_isWord; exact id)).trans (hs q j hq)
                        refine f_ite hf (fun hf => ?_) (fun hf => ?_)
                        · exact fun q j hq => (f_X12_operand_b426 hf q j hq).trans (hs q j hq)
                        · exact fun q j hq => (f_X12_operand_b426 hf q j hq).trans (hs q j hq)
                      · exact fun q j hq => (f_X12_operand_b426 hf q j hq).trans (hs q j hq)
                    · exact fun q j hq => (f_X12_operand_b426 hf q j hq).trans (hs q j hq)
                  · exact fun q j hq => (f_X12_operand_b426 hf q j hq).trans (hs q j hq)
                · exact fun q j hq => (f_X12_operand_b426 hf q j hq).trans (hs q j hq)
              · exact fun q j hq => (f_X12_operand_b426 hf q j hq).trans (hs q j hq)
            · exact fun q j hq => (f_X12_operand_b426 hf q j hq).trans (hs q j hq)
          · exact fun q j hq => (f_X12_operand_b426 hf q j hq).trans (hs q j hq)
        · exact fun q j hq => (f_X12_operand_b217 hf q j hq).trans (hs q j hq)
  · refine f_mob hf (fun r649 σ650 h1 hf => ?_)
    have hs := fun q j hq => (f_X12_opens h1 q j (by unfold T_X12_operand at hq; unfold T_X12_opens; omega)).trans (hs q j hq)
    refine f_gd hf (fun hf => ?_)
    cases hf
    exact hs
theorem f_X12_operand_b137 {F : Nat}  {r : Int} {σ' : mMem}   {x1 x2 : Int} {σ : mMem} (hf : g_X12_operand_b137 F x1 x2 σ = some (r, σ')) : ∀ q j, ¬ T_X12_operand  q j → σ' q j = σ q j := by
  unfold g_X12_operand_b137 at hf
  have hs : ∀ q j, ¬ T_X12_operand  q j → σ q j = σ q j := fun _ _ _ => rfl
  refine f_ite hf (fun hf => ?_) (fun hf => ?_)
  · exact fun q j hq => (f_X12_operand_b171 hf q j hq).trans (hs q j hq)
  · refine f_mob hf (fun r520 σ521 h1 hf => ?_)
    have hs := fun q j hq => (f_X12_isWord h1 q j (by unfold T_X12_isWord; exact id)).trans (hs q j hq)
    refine f_ite hf (fun hf => ?_) (fun hf => ?_)
    · exact fun q j hq => (f_X12_operand_b171 hf q j hq).trans (hs q j hq)
    · refine f_mob hf (fun r522 σ523 h1 hf => ?_)
      have hs := fun q j hq => (f_X12_add h1 q j (by unfold T_X12_operand at hq; unfold T_X12_add; omega)).trans (hs q j hq)
      refine f_gd hf (fun hf => ?_)
      refine f_mem hf (fun q j hq => (mup_ne (by unfold T_X12_operand at hq; omega)).trans (hs q j hq)) (fun σ524 hs hf => ?_)
      refine f_mob hf (fun r525 σ526 h1 hf => ?_)
      have hs := fun q j hq => (f_X12_ahead h1 q j (by unfold T_X12_operand at hq; unfold T_X12_ahead; omega)).trans (hs q j hq)
      refine f_gd hf (fun hf => ?_)
      cases hf
      exact hs
theorem f_X12_operand_b110 {F : Nat}  {r : Int} {σ' : mMem}   {x1 x2 : Int} {σ : mMem} (hf : g_X12_operand_b110 F x1 x2 σ = some (r, σ')) : ∀ q j, ¬ T_X12_operand  q j → σ' q j = σ q j := by
  unfold g_X12_operand_b110 at hf
  have hs : ∀ q j, ¬ T_X12_operand  q j → σ q j = σ q j := fun _ _ _ => rfl
  refine f_gd hf (fun hf => ?_)
  refine f_mem hf (fun q j hq => (mup_ne (by unfold T_X12_operand at hq; omega)).trans (hs q j hq)) (fun σ310 hs hf => ?_)
  refine f_ite hf (fun hf => ?_) (fun hf => ?_)
  · exact fun q j hq => (f_X12_operand_b137 hf q j hq).trans (hs q j hq)
  · refine f_mob hf (fun r311 σ312 h1 hf => ?_)
    have hs := fun q j hq => (f_X12_isSign h1 q j (by unfold T_X12_isSign; exact id)).trans (hs q j hq)
    refine f_ite hf (fun hf => ?_) (fun hf => ?_)
    · exact fun q j hq => (f_X12_operand_b137 hf q j hq).trans (hs q j hq)
    · refine f_mob hf (fun r313 σ314 h1 hf => ?_)
      have hs := fun q j hq => (f_X12_opens h1 q j (by unfold T_X12_operand at hq; unfold T_X12_opens; omega)).trans (hs q j hq)
      refine f_gd hf (fun hf => ?_)
      cases hf
      exact hs
theorem f_X12_operand_b79 {F : Nat}  {r : Int} {σ' : mMem}   {σ : mMem} (hf : g_X12_operand_b79 F  σ = some (r, σ')) : ∀ q j, ¬ T_X12_operand  q j → σ' q j = σ q j := by
  unfold g_X12_operand_b79 at hf
  have hs : ∀ q j, ¬ T_X12_operand  q j → σ q j = σ q j := fun _ _ _ => rfl
  refine f_ite hf (fun hf => ?_) (fun hf => ?_)
  · refine f_mem hf (fun q j hq => (mup_ne (by unfold T_X12_operand at hq; omega)).trans (hs q j hq)) (fun σ415 hs hf => ?_)
    refine f_mob hf (fun r416 σ417 h1 hf => ?_)
    have hs := fun q j hq => (f_X12_holdsBack h1 q j (by unfold T_X12_operand at hq; unfold T_X12_holdsBack; omega)).trans (hs q j hq)
    refine f_mob hf (fun r418 σ419 h1 hf => ?_)
    have hs := fun q j hq => (f_X12_ahead h1 q j (by unfold T_X12_operand at hq; unfold T_X12_ahead; omega)).trans (hs q j hq)
    refine f_gd hf (fun hf => ?_)
    cases hf
    exact hs
  · refine f_gd hf (fun hf => ?_)
    cases hf
    exact hs
theorem f_X12_operand_b46 {F : Nat}  {r : Int} {σ' : mMem}   {x1 t0 : Int} {σ : mMem} (hf : g_X12_operand_b46 F x1 t0 σ = some (r, σ')) : ∀ q j, ¬ T_X12_operand  q j → σ' q j = σ q j := by
  unfold g_X12_operand_b46 at hf
  have hs : ∀ q j, ¬ T_X12_operand  q j → σ q j = σ q j := fun _ _ _ => rfl
  refine f_ite hf (fun hf => ?_) (fun hf => ?_)
  · exact fun q j hq => (f_X12_operand_b110 hf q j hq).trans (hs q j hq)
  · refine f_mob hf (fun r106 σ107 h1 hf => ?_)
    have hs := fun q j hq => (f_X12_isWord h1 q j (by unfold T_X12_isWord; exact id)).trans (hs q j hq)
    refine f_ite hf (fun hf => ?_) (fun hf => ?_)
    · exact fun q j hq => (f_X12_operand_b110 hf q j hq).trans (hs q j hq)
    · refine f_ite hf (fun hf => ?_) (fun hf => ?_)
      · exact fun q j hq => (f_X12_operand_b79 hf q j hq).trans (hs q j hq)
      · refine f_mob hf (fun r108 σ109 h1 hf => ?_)
        have hs := fun q j hq => (f_X12_blame h1 q j (by unfold T_X12_operand at hq; unfold T_X12_blame; omega)).trans (hs q j hq)
        exact fun q j hq => (f_X12_operand_b79 hf q j hq).trans (hs q j hq)
theorem f_X12_operand_b45 {F : Nat}  {r : Int} {σ' : mMem}   {x1 : Int} {σ : mMem} (hf : g_X12_operand_b45 F x1 σ = some (r, σ')) : ∀ q j, ¬ T_X12_operand  q j → σ' q j = σ q j := by
  unfold g_X12_operand_b45 at hf
  have hs : ∀ q j, ¬ T_X12_operand  q j → σ q j = σ q j := fun _ _ _ => rfl
  exact fun q j hq => (f_X12_operand_b46 hf q j hq).trans (hs q j hq)
theorem f_X12_operand {F : Nat}  {r : Int} {σ' : mMem} {σ : mMem} (hf : g_X12_operand F σ = some (r, σ')) : ∀ q j, ¬ T_X12_operand  q j → σ' q j = σ q j := by
  unfold g_X12_operand at hf
  have hs : ∀ q j, ¬ T_X12_operand  q j → σ q j = σ q j := fun _ _ _ => rfl
  refine f_mob hf (fun r1 σ2 h1 hf => ?_)
  have hs := fun q j hq => (f_X12_lex h1 q j (by unfold T_X12_operand at hq; unfold T_X12_lex; omega)).trans (hs q j hq)
  refine f_ite hf (fun hf => ?_) (fun hf => ?_)
  · refine f_let hf (fun y3 hf => ?_)
    refine f_gd hf (fun hf => ?_)
    refine f_mob hf (fun r4 σ5 h1 hf => ?_)
    have hs := fun q j hq => (f_X12_isTest h1 q j (by unfold T_X12_isTest; exact id)).trans (hs q j hq)
    refine f_ite hf (fun hf => ?_) (fun hf => ?_)
    · exact fun q j hq => (f_X12_operand_b45 hf q j hq).trans (hs q j hq)
    · refine f_gd hf (fun hf => ?_)
      refine f_ite hf (fun hf => ?_) (fun hf => ?_)
      · exact fun q j hq => (f_X12_operand_b45 hf q j hq).trans (hs q j hq)
      · exact fun q j hq => (f_X12_operand_b46 hf q j hq).trans (hs q j hq)
  · refine f_gd hf (fun hf => ?_)
    cases hf
    exact hs
def T_X12_goesOn  (q j : Nat) : Prop := (q = 86 ∧ (j = 3 ∨ j = 4 ∨ j = 5 ∨ j = 6 ∨ j = 7 ∨ j = 8 ∨ j = 9 ∨ j = 12 ∨ j = 29 ∨ j = 37 ∨ j = 38 ∨ j = 40 ∨ j = 41)) ∨ q = 100 ∨ q = 101 ∨ q = 103 ∨ q = 104 ∨ q = 105 ∨ q = 108
theorem f_X12_goesOn_b499 {F : Nat}  {r : Int} {σ' : mMem}   {x1 t0 t1 : Int} {σ : mMem} (hf : g_X12_goesOn_b499 F x1 t0 t1 σ = some (r, σ')) : ∀ q j, ¬ T_X12_goesOn  q j → σ' q j = σ q j := by
  unfold g_X12_goesOn_b499 at hf
  have hs : ∀ q j, ¬ T_X12_goesOn  q j → σ q j = σ q j := fun _ _ _ => rfl
  refine f_gd hf (fun hf => ?_)
  refine f_mem hf (fun q j hq => (mup_ne (by unfold T_X12_goesOn at hq; omega)).trans (hs q j hq)) (fun σ2091 hs hf => ?_)
  refine f_gd hf (fun hf => ?_)
  refine f_mem hf (fun q j hq => (mup_ne (by unfold T_X12_goesOn at hq; omega)).trans (hs q j hq)) (fun σ2092 hs hf => ?_)
  refine f_mob hf (fun r2093 σ2094 h1 hf => ?_)
  have hs := fun q j hq => (f_X12_ahead h1 q j (by unfold T_X12_goesOn at hq; unfold T_X12_ahead; omega)).trans (hs q j hq)
  refine f_gd hf (fun hf => ?_)
  refine f_mem hf (fun q j hq => (mup_ne (by unfold T_X12_goesOn at hq; omega)).trans (hs q j hq)) (fun σ2095 hs hf => ?_)
  refine f_gd hf (fun hf => ?_)
  cases hf
  exact hs
theorem f_X12_goesOn_b470 {F : Nat}  {r : Int} {σ' : mMem}   {x1 x2 : Int} {σ : mMem} (hf : g_X12_goesOn_b470 F x1 x2 σ = some (r, σ')) : ∀ q j, ¬ T_X12_goesOn  q j → σ' q j = σ q j := by
  unfold g_X12_goesOn_b470 at hf
  have hs : ∀ q j, ¬ T_X12_goesOn  q j → σ q j = σ q j := fun _ _ _ => rfl
  refine f_ite hf (fun hf => ?_) (fun hf => ?_)
  · refine f_mob hf (fun r1776 σ1777 h1 hf => ?_)
    have hs := fun q j hq => (f_X12_joins h1 q j (by unfold T_X12_goesOn at hq; unfold T_X12_joins; omega)).trans (hs q j hq)
    refine f_ite hf (fun hf => ?_) (fun hf => ?_)
    · exact fun q j hq => (f_X12_goesOn_b499 hf q j hq).trans (hs q j hq)
    · exact fun q j hq => (f_X12_goesOn_b499 hf q j hq).trans (hs q j hq)
  · refine f_gd hf (fun hf => ?_)
    cases hf
    exact hs
theorem f_X12_goesOn_b452 {F : Nat}  {r : Int} {σ' : mMem}   {x1 x2 : Int} {σ : mMem} (hf : g_X12_goesOn_b452 F x1 x2 σ = some (r, σ')) : ∀ q j, ¬ T_X12_goesOn  q j → σ' q j = σ q j := by
  unfold g_X12_goesOn_b452 at hf
  have hs : ∀ q j, ¬ T_X12_goesOn  q j → σ q j = σ q j := fun _ _ _ => rfl
  refine f_mob hf (fun r1366 σ1367 h1 hf => ?_)
  have hs := fun q j hq => (f_X12_isSign h1 q j (by unfold T_X12_isSign; exact id)).trans (hs q j hq)
  refine f_ite hf (fun hf => ?_) (fun hf => ?_)
  · exact fun q j hq => (f_X12_goesOn_b470 hf q j hq).trans (hs q j hq)
  · refine f_mob hf (fun r1368 σ1369 h1 hf => ?_)
    have hs := fun q j hq => (f_X12_blame h1 q j (by unfold T_X12_goesOn at hq; unfold T_X12_blame; omega)).trans (hs q j hq)
    exact fun q j hq => (f_X12_goesOn_b470 hf q j hq).trans (hs q j hq)
theorem f_X12_goesOn_b613 {F : Nat}  {r : Int} {σ' : mMem}   {σ : mMem} (hf : g_X12_goesOn_b613 F  σ = some (r, σ')) : ∀ q j, ¬ T_X12_goesOn  q j → σ' q j = σ q j := by
  unfold g_X12_goesOn_b613 at hf
  have hs : ∀ q j, ¬ T_X12_goesOn  q j → σ q j = σ q j := fun _ _ _ => rfl
  refine f_mob hf (fun r2297 σ2298 h1 hf => ?_)
  have hs := fun q j hq => (f_X12_ahead h1 q j (by unfold T_X12_goesOn at hq; unfold T_X12_ahead; omega)).trans (hs q j hq)
  refine f_gd hf (fun hf => ?_)
  cases hf
  exact hs
theorem f_X12_goesOn_b596 {F : Nat}  {r : Int} {σ' : mMem}   {x2 : Int} {σ : mMem} (hf : g_X12_goesOn_b596 F x2 σ = some (r, σ')) : ∀ q j, ¬ T_X12_goesOn  q j → σ' q j = σ q j := by
  unfold g_X12_goesOn_b596 at hf
  have hs : ∀ q j, ¬ T_X12_goesOn  q j → σ q j = σ q j := fun _ _ _ => rfl
  refine f_ite hf (fun hf => ?_) (fun hf => ?_)
  · exact fun q j hq => (f_X12_goesOn_b613 hf q j hq).trans (hs q j hq)
  · refine f_gd hf (fun hf => ?_)
    refine f_mem hf (fun q j hq => (mup_ne (by unfold T_X12_goesOn at hq; omega)).trans (hs q j hq)) (fun σ2196 hs hf => ?_)
    exact fun q j hq => (f_X12_goesOn_b613 hf q j hq).trans (hs q j hq)
theorem f_X12_goesOn_b546 {F : Nat}  {r : Int} {σ' : mMem}   {x1 x2 : Int} {σ : mMem} (hf : g_X12_goesOn_b546 F x1 x2 σ = some (r, σ')) : ∀ q j, ¬ T_X12_goesOn  q j → σ' q j = σ q j := by
  unfold g_X12_goesOn_b546 at hf
  have hs : ∀ q j, ¬ T_X12_goesOn  q j → σ q j = σ q j := fun _ _ _ => rfl
  refine f_ite hf (fun hf => ?_) (fun hf => ?_)
  · refine f_mob hf (fun r1878 σ1879 h1 hf => ?_)
    have hs := fun q j hq => (f_X12_joins h1 q j (by unfold T_X12_goesOn at hq; unfold T_X12_joins; omega)).trans (hs q j hq)
    refine f_mem hf (fun q j hq => (mup_ne (by unfold T_X12_goesOn at hq; omega)).trans (hs q j hq)) (fun σ1880 hs hf => ?_)
    refine f_mem hf (fun q j hq => (mup_ne (by unfold T_X12_goesOn at hq; omega)).trans (hs q j hq)) (fun σ1881 hs hf => ?_)
    refine f_ite hf (fun hf => ?_) (fun hf => ?_)
    · exact fun q j hq => (f_X12_goesOn_b596 hf q j hq).trans (hs q j hq)
    · refine f_gd hf (fun hf => ?_)
      refine f_mob hf (fun r1882 σ1883 h1 hf => ?_)
      have hs := fun q j hq => (f_X12_add h1 q j (by unfold T_X12_goesOn at hq; unfold T_X12_add; omega)).trans (hs q j hq)
      exact fun q j hq => (f_X12_goesOn_b596 hf q j hq).trans (hs q j hq)
  · refine f_gd hf (fun hf => ?_)
    cases hf
    exact hs
theorem f_X12_goesOn_b531 {F : Nat}  {r : Int} {σ' : mMem}   {x1 x2 t0 : Int} {σ : mMem} (hf : g_X12_goesOn_b531 F x1 x2 t0 σ = some (r, σ')) : ∀ q j, ¬ T_X12_goesOn  q j → σ' q j = σ q j := by
  unfold g_X12_goesOn_b531 at hf
  have hs : ∀ q j, ¬ T_X12_goesOn  q j → σ q j = σ q j := fun _ _ _ => rfl
  refine f_mob hf (fun r1470 σ1471 h1 hf => ?_)
  have hs := fun q j hq => (f_X12_isSign h1 q j (by unfold T_X12_isSign; exact id)).trans (hs q j hq)
  refine f_ite hf (fun hf => ?_) (fun hf => ?_)
  · exact fun q j hq => (f_X12_goesOn_b546 hf q j hq).trans (hs q j hq)
  · refine f_mob hf (fun r1472 σ1473 h1 hf => ?_)
    have hs := fun q j hq => (f_X12_blame h1 q j (by unfold T_X12_goesOn at hq; unfold T_X12_blame; omega)).trans (hs q j hq)
    exact fun q j hq => (f_X12_goesOn_b546 hf q j hq).trans (hs q j hq)
theorem f_X12_goesOn_b439 {F : Nat}  {r : Int} {σ' : mMem}   {σ : mMem} (hf : g_X12_goesOn_b439 F  σ = some (r, σ')) : ∀ q j, ¬ T_X12_goesOn  q j → σ' q j = σ q j := by
  unfold g_X12_goesOn_b439 at hf
  have hs : ∀ q j, ¬ T_X12_goesOn  q j → σ q j = σ q j := fun _ _ _ => rfl
  refine f_gd hf (fun hf => ?_)
  cases hf
  exact hs
theorem f_X12_goesOn_b422 {F : Nat}  {r : Int} {σ' : mMem}   {x1 x2 : Int} {σ : mMem} (hf : g_X12_goesOn_b422 F x1 x2 σ = some (r, σ')) : ∀ q j, ¬ T_X12_goesOn  q j → σ' q j = σ q j := by
  unfold g_X12_goesOn_b422 at hf
  have hs : ∀ q j, ¬ T_X12_goesOn  q j → σ q j = σ q j := fun _ _ _ => rfl
  refine f_ite hf (fun hf => ?_) (fun hf => ?_)
  · refine f_ite hf (fun hf => ?_) (fun hf => ?_)
    · exact fun q j hq => (f_X12_goesOn_b452 hf q j hq).trans (hs q j hq)
    · refine f_ite hf (fun hf => ?_) (fun hf => ?_)
      · refine f_ite hf (fun hf => ?_) (fun hf => ?_)
        · exact fun q j hq => (f_X12_goesOn_b531 hf q j hq).trans (hs q j hq)
        · exact fun q j hq => (f_X12_goesOn_b531 hf q j hq).trans (hs q j hq)
      · exact fun q j hq => (f_X12_goesOn_b452 hf q j hq).trans (hs q j hq)
  · refine f_ite hf (fun hf => ?_) (fun hf => ?_)
    · exact fun q j hq => (f_X12_goesOn_b439 hf q j hq).trans (hs q j hq)
    · refine f_mob hf (fun r1162 σ1163 h1 hf => ?_)
      have hs := fun q j hq => (f_X12_joins h1 q j (by unfold T_X12_goesOn at hq; unfold T_X12_joins; omega)).trans (hs q j hq)
      exact fun q j hq => (f_X12_goesOn_b439 hf q j hq).trans (hs q j hq)
theorem f_X12_goesOn_b400 {F : Nat}  {r : Int} {σ' : mMem}   {x1 x2 x3 : Int} {σ : mMem} (hf : g_X12_goesOn_b400 F x1 x2 x3 σ = some (r, σ')) : ∀ q j, ¬ T_X12_goesOn  q j → σ' q j = σ q j := by
  unfold g_X12_goesOn_b400 at hf
  have hs : ∀ q j, ¬ T_X12_goesOn  q j → σ q j = σ q j := fun _ _ _ => rfl
  refine f_ite hf (fun hf => ?_) (fun hf => ?_)
  · exact fun q j hq => (f_X12_goesOn_b422 hf q j hq).trans (hs q j hq)
  · refine f_gd hf (fun hf => ?_)
    refine f_ite hf (fun hf => ?_) (fun hf => ?_)
    · exact fun q j hq => (f_X12_goesOn_b422 hf q j hq).trans (hs q j hq)
    · refine f_mob hf (fun r747 σ748 h1 hf => ?_)
      have hs := fun q j hq => (f_X12_blame h1 q j (by unfold T_X12_goesOn at hq; unfold T_X12_blame; omega)).trans (hs q j hq)
      exact fun q j hq => (f_X12_goesOn_b422 hf q j hq).trans (hs q j hq)
theorem f_X12_goesOn_b372 {F : Nat}  {r : Int} {σ' : mMem}   {x1 t0 : Int} {σ : mMem} (hf : g_X12_goesOn_b372 F x1 t0 σ = some (r, σ')) : ∀ q j, ¬ T_X12_goesOn  q j → σ' q j = σ q j := by
  unfold g_X12_goesOn_b372 at hf
  have hs : ∀ q j, ¬ T_X12_goesOn  q j → σ q j = σ q j := fun _ _ _ => rfl
  refine f_mob hf (fun r1984 σ1985 h1 hf => ?_)
  have hs := fun q j hq => (f_X12_holdsBack h1 q j (by unfold T_X12_goesOn at hq; unfold T_X12_holdsBack; omega)).trans (hs q j hq)
  refine f_gd hf (fun hf => ?_)
  refine f_mem hf (fun q j hq => (mup_ne (by unfold T_X12_goesOn at hq; omega)).trans (hs q j hq)) (fun σ1986 hs hf => ?_)
  refine f_gd hf (fun hf => ?_)
  refine f_mem hf (fun q j hq => (mup_ne (by unfold T_X12_goesOn at hq; omega)).trans (hs q j hq)) (fun σ1987 hs hf => ?_)
  refine f_mob hf (fun r1988 σ1989 h1 hf => ?_)
  have hs := fun q j hq => (f_X12_ahead h1 q j (by unfold T_X12_goesOn at hq; unfold T_X12_ahead; omega)).trans (hs q j hq)
  refine f_gd hf (fun hf => ?_)
  refine f_mem hf (fun q j hq => (mup_ne (by unfold T_X12_goesOn at hq; omega)).trans (hs q j hq)) (fun σ1990 hs hf => ?_)
  refine f_gd hf (fun hf => ?_)
  cases hf
  exact hs
theorem f_X12_goesOn_b356 {F : Nat}  {r : Int} {σ' : mMem}   {x1 x4 t0 : Int} {σ : mMem} (hf : g_X12_goesOn_b356 F x1 x4 t0 σ = some (r, σ')) : ∀ q j, ¬ T_X12_goesOn  q j → σ' q j = σ q j := by
  unfold g_X12_goesOn_b356 at hf
  have hs : ∀ q j, ¬ T_X12_goesOn  q j → σ q j = σ q j := fun _ _ _ => rfl
  refine f_mob hf (fun r1674 σ1675 h1 hf => ?_)
  have hs := fun q j hq => (f_X12_joins h1 q j (by unfold T_X12_goesOn at hq; unfold T_X12_joins; omega)).trans (hs q j hq)
  refine f_ite hf (fun hf => ?_) (fun hf => ?_)
  · exact fun q j hq => (f_X12_goesOn_b372 hf q j hq).trans (hs q j hq)
  · exact fun q j hq => (f_X12_goesOn_b372 hf q j hq).trans (hs q j hq)
theorem f_X12_goesOn_b327 {F : Nat}  {r : Int} {σ' : mMem}   {x1 : Int} {σ : mMem} (hf : g_X12_goesOn_b327 F x1 σ = some (r, σ')) : ∀ q j, ¬ T_X12_goesOn  q j → σ' q j = σ q j := by
  unfold g_X12_goesOn_b327 at hf
  have hs : ∀ q j, ¬ T_X12_goesOn  q j → σ q j = σ q j := fun _ _ _ => rfl
  refine f_ite hf (fun hf => ?_) (fun hf => ?_)
  · refine f_mob hf (fun r1264 σ1265 h1 hf => ?_)
    have hs := fun q j hq => (f_X12_isWord h1 q j (by unfold T_X12_isWord; exact id)).trans (hs q j hq)
    refine f_ite hf (fun hf => ?_) (fun hf => ?_)
    · exact fun q j hq => (f_X12_goesOn_b356 hf q j hq).trans (hs q j hq)
    · exact fun q j hq => (f_X12_goesOn_b356 hf q j hq).trans (hs q j hq)
  · refine f_gd hf (fun hf => ?_)
    cases hf
    exact hs
theorem f_X12_goesOn_b309 {F : Nat}  {r : Int} {σ' : mMem}   {x1 : Int} {σ : mMem} (hf : g_X12_goesOn_b309 F x1 σ = some (r, σ')) : ∀ q j, ¬ T_X12_goesOn  q j → σ' q j = σ q j := by
  unfold g_X12_goesOn_b309 at hf
  have hs : ∀ q j, ¬ T_X12_goesOn  q j → σ q j = σ q j := fun _ _ _ => rfl
  refine f_gd hf (fun hf => ?_)
  refine f_ite hf (fun hf => ?_) (fun hf => ?_)
  · exact fun q j hq => (f_X12_goesOn_b327 hf q j hq).trans (hs q j hq)
  · refine f_mob hf (fun r849 σ850 h1 hf => ?_)
    have hs := fun q j hq => (f_X12_blame h1 q j (by unfold T_X12_goesOn at hq; unfold T_X12_blame; omega)).trans (hs q j hq)
    exact fun q j hq => (f_X12_goesOn_b327 hf q j hq).trans (hs q j hq)
theorem f_X12_goesOn_b285 {F : Nat}  {r : Int} {σ' : mMem}   {x1 x2 x3 : Int} {σ : mMem} (hf : g_X12_goesOn_b285 F x1 x2 x3 σ = some (r, σ')) : ∀ q j, ¬ T_X12_goesOn  q j → σ' q j = σ q j := by
  unfold g_X12_goesOn_b285 at hf
  have hs : ∀ q j, ¬ T_X12_goesOn  q j → σ q j = σ q j := fun _ _ _ => rfl
  refine f_ite hf (fun hf => ?_) (fun hf => ?_)
  · exact fun q j hq => (f_X12_goesOn_b400 hf q j hq).trans (hs q j hq)
  · refine f_mob hf (fun r327 σ328 h1 hf => ?_)
    have hs := fun q j hq => (f_X12_isWord h1 q j (by unfold T_X12_isWord; exact id)).trans (hs q j hq)
    refine f_ite hf (fun hf => ?_) (fun hf => ?_)
    · exact fun q j hq => (f_X12_goesOn_b309 hf q j hq).trans (hs q j hq)
    · refine f_mob hf (fun r329 σ330 h1 hf => ?_)
      have hs := fun q j hq => (f_X12_isWord h1 q j (by unfold T_X12_isWord; exact id)).trans (hs q j hq)
      refine f_ite hf (fun hf => ?_) (fun hf => ?_)
      · exact fun q j hq => (f_X12_goesOn_b400 hf q j hq).trans (hs q j hq)
      · exact fun q j hq => (f_X12_goesOn_b309 hf q j hq).trans (hs q j hq)
theorem f_X12_goesOn_b264 {F : Nat}  {r : Int} {σ' : mMem}   {x1 t0 : Int} {σ : mMem} (hf : g_X12_goesOn_b264 F x1 t0 σ = some (r, σ')) : ∀ q j, ¬ T_X12_goesOn  q j → σ' q j = σ q j := by
  unfold g_X12_goesOn_b264 at hf
  have hs : ∀ q j, ¬ T_X12_goesOn  q j → σ q j = σ q j := fun _ _ _ => rfl
  refine f_mob hf (fun r951 σ952 h1 hf => ?_)
  have hs := fun q j hq => (f_X12_holdsBack h1 q j (by unfold T_X12_goesOn at hq; unfold T_X12_holdsBack; omega)).trans (hs q j hq)
  refine f_gd hf (fun hf => ?_)
  refine f_mem hf (fun q j hq => (mup_ne (by unfold T_X12_goesOn at hq; omega)).trans (hs q j hq)) (fun σ953 hs hf => ?_)
  refine f_mob hf (fun r954 σ955 h1 hf => ?_)
  have hs := fun q j hq => (f_X12_ahead h1 q j (by unfold T_X12_goesOn at hq; unfold T_X12_ahead; omega)).trans (hs q j hq)
  refine f_gd hf (fun hf => ?_)
  refine f_mem hf (fun q j hq => (mup_ne (by unfold T_X12_goesOn at hq; omega)).trans (hs q j hq)) (fun σ956 hs hf => ?_)
  refine f_gd hf (fun hf => ?_)
  cases hf
  exact hs
theorem f_X12_goesOn_b228 {F : Nat}  {r : Int} {σ' : mMem}   {x1 : Int} {σ : mMem} (hf : g_X12_goesOn_b228 F x1 σ = some (r, σ')) : ∀ q j, ¬ T_X12_goesOn  q j → σ' q j = σ q j := by
  unfold g_X12_goesOn_b228 at hf
  have hs : ∀ q j, ¬ T_X12_goesOn  q j → σ q j = σ q j := fun _ _ _ => rfl
  refine f_mob hf (fun r431 σ432 h1 hf => ?_)
  have hs := fun q j hq => (f_X12_joins h1 q j (by unfold T_X12_goesOn at hq; unfold T_X12_joins; omega)).trans (hs q j hq)
  refine f_mob hf (fun r433 σ434 h1 hf => ?_)
  have hs := fun q j hq => (f_X12_isSign h1 q j (by unfold T_X12_isSign; exact id)).trans (hs q j hq)
  refine f_ite hf (fun hf => ?_) (fun hf => ?_)
  · refine f_mob hf (fun r435 σ436 h1 hf => ?_)
    have hs := fun q j hq => (f_X12_isSign h1 q j (by unfold T_X12_isSign; exact id)).trans (hs q j hq)
    refine f_ite hf (fun hf => ?_) (fun hf => ?_)
    · exact fun q j hq => (f_X12_goesOn_b264 hf q j hq).trans (hs q j hq)
    · exact fun q j hq => (f_X12_goesOn_b264 hf q j hq).trans (hs q j hq)
  · exact fun q j hq => (f_X12_goesOn_b264 hf q j hq).trans (hs q j hq)
theorem f_X12_goesOn_b188 {F : Nat}  {r : Int} {σ' : mMem}   {x1 x2 x3 : Int} {σ : mMem} (hf : g_X12_goesOn_b188 F x1 x2 x3 σ = some (r, σ')) : ∀ q j, ¬ T_X12_goesOn  q j → σ' q j = σ q j := by
  unfold g_X12_goesOn_b188 at hf
  have hs : ∀ q j, ¬ T_X12_goesOn  q j → σ q j = σ q j := fun _ _ _ => rfl
  refine f_ite hf (fun hf => ?_) (fun hf => ?_)
  · exact fun q j hq => (f_X12_goesOn_b285 hf q j hq).trans (hs q j hq)
  · refine f_gd hf (fun hf => ?_)
    refine f_ite hf (fun hf => ?_) (fun hf => ?_)
    · exact fun q j hq => (f_X12_goesOn_b285 hf q j hq).trans (hs q j hq)
    · refine f_mob hf (fun r117 σ118 h1 hf => ?_)
      have hs := fun q j hq => (f_X12_isSign h1 q j (by unfold T_X12_isSign; exact id)).trans (hs q j hq)
      refine f_ite hf (fun hf => ?_) (fun hf => ?_)
      · exact fun q j hq => (f_X12_goesOn_b228 hf q j hq).trans (hs q j hq)
      · refine f_mob hf (fun r119 σ120 h1 hf => ?_)
        have hs := fun q j hq => (f_X12_isSign h1 q j (by unfold T_X12_isSign; exact id)).trans (hs q j hq)
        refine f_ite hf (fun hf => ?_) (fun hf => ?_)
        · exact fun q j hq => (f_X12_goesOn_b228 hf q j hq).trans (hs q j hq)
        · refine f_mob hf (fun r121 σ122 h1 hf => ?_)
          have hs := fun q j hq => (f_X12_isSign h1 q j (by unfold T_X12_isSign; exact id)).trans (hs q j hq)
          refine f_ite hf (fun hf => ?_) (fun hf => ?_)
          · exact fun q j hq => (f_X12_goesOn_b285 hf q j hq).trans (hs q j hq)
          · exact fun q j hq => (f_X12_goesOn_b228 hf q j hq).trans (hs q j hq)
theorem f_X12_goesOn_b174 {F : Nat}  {r : Int} {σ' : mMem}   {t0 : Int} {σ : mMem} (hf : g_X12_goesOn_b174 F t0 σ = some (r, σ')) : ∀ q j, ¬ T_X12_goesOn  q j → σ' q j = σ q j := by
  unfold g_X12_goesOn_b174 at hf
  have hs : ∀ q j, ¬ T_X12_goesOn  q j → σ q j = σ q j := fun _ _ _ => rfl
  refine f_mob hf (fun r1057 σ1058 h1 hf => ?_)
  have hs := fun q j hq => (f_X12_holdsBack h1 q j (by unfold T_X12_goesOn at hq; unfold T_X12_holdsBack; omega)).trans (hs q j hq)
  refine f_mob hf (fun r1059 σ1060 h1 hf => ?_)
  have hs := fun q j hq => (f_X12_ahead h1 q j (by unfold T_X12_goesOn at hq; unfold T_X12_ahead; omega)).trans (hs q j hq)
  refine f_gd hf (fun hf => ?_)
  refine f_mem hf (fun q j hq => (mup_ne (by unfold T_X12_goesOn at hq; omega)).trans (hs q j hq)) (fun σ1061 hs hf => ?_)
  refine f_gd hf (fun hf => ?_)
  cases hf
  exact hs
theorem f_X12_goesOn_b112 {F : Nat}  {r : Int} {σ' : mMem}   {t0 : Int} {σ : mMem} (hf : g_X12_goesOn_b112 F t0 σ = some (r, σ')) : ∀ q j, ¬ T_X12_goesOn  q j → σ' q j = σ q j := by
  unfold g_X12_goesOn_b112 at hf
  have hs : ∀ q j, ¬ T_X12_goesOn  q j → σ q j = σ q j := fun _ _ _ => rfl
  refine f_mob hf (fun r537 σ538 h1 hf => ?_)
  have hs := fun q j hq => (f_X12_joins h1 q j (by unfold T_X12_goesOn at hq; unfold T_X12_joins; omega)).trans (hs q j hq)
  refine f_mob hf (fun r539 σ540 h1 hf => ?_)
  have hs := fun q j hq => (f_X12_isSign h1 q j (by unfold T_X12_isSign; exact id)).trans (hs q j hq)
  refine f_ite hf (fun hf => ?_) (fun hf => ?_)
  · refine f_mob hf (fun r541 σ542 h1 hf => ?_)
    have hs := fun q j hq => (f_X12_isSign h1 q j (by unfold T_X12_isSign; exact id)).trans (hs q j hq)
    refine f_ite hf (fun hf => ?_) (fun hf => ?_)
    · refine f_mob hf (fun r543 σ544 h1 hf => ?_)
      have hs := fun q j hq => (f_X12_isSign h1 q j (by unfold T_X12_isSign; exact id)).trans (hs q j hq)
      refine f_ite hf (fun hf => ?_) (fun hf => ?_)
      · refine f_mob hf (fun r545 σ546 h1 hf => ?_)
        have hs := fun q j hq => (f_X12_isSign h1 q j (by unfold T_X12_isSign; exact id)).trans (hs q j hq)
        refine f_ite hf (fun hf => ?_) (fun hf => ?_)
        · exact fun q j hq => (f_X12_goesOn_b174 hf q j hq).trans (hs q j hq)
        · exact fun q j hq => (f_X12_goesOn_b174 hf q j hq).trans (hs q j hq)
      · exact fun q j hq => (f_X12_goesOn_b174 hf q j hq).trans (hs q j hq)
    · exact fun q j hq => (f_X12_goesOn_b174 hf q j hq).trans (hs q j hq)
  · exact fun q j hq => (f_X12_goesOn_b174 hf q j hq).trans (hs q j hq)
theorem f_X12_goesOn_b106 {F : Nat}  {r : Int} {σ' : mMem}   {σ : mMem} (hf : g_X12_goesOn_b106 F  σ = some (r, σ')) : ∀ q j, ¬ T_X12_goesOn  q j → σ' q j = σ q j := by
  unfold g_X12_goesOn_b106 at hf
  have hs : ∀ q j, ¬ T_X12_goesOn  q j → σ q j = σ q j := fun _ _ _ => rfl
  exact fun q j hq => (f_X12_goesOn_b112 hf q j hq).trans (hs q j hq)
theorem f_X12_goesOn_b87 {F : Nat}  {r : Int} {σ' : mMem}   {σ : mMem} (hf : g_X12_goesOn_b87 F  σ = some (r, σ')) : ∀ q j, ¬ T_X12_goesOn  q j → σ' q j = σ q j := by
  unfold g_X12_goesOn_b87 at hf
  have hs : ∀ q j, ¬ T_X12_goesOn  q j → σ q j = σ q j := fun _ _ _ => rfl
  refine f_mob hf (fun r223 σ224 h1 hf => ?_)
  have hs := fun q j hq => (f_X12_isSign h1 q j (by unfold T_X12_isSign; exact id)).trans (hs q j hq)
  refine f_ite hf (fun hf => ?_) (fun hf => ?_)
  · exact fun q j hq => (f_X12_goesOn_b106 hf q j hq).trans (hs q j hq)
  · refine f_mob hf (fun r225 σ226 h1 hf => ?_)
    have hs := fun q j hq => (f_X12_isSign h1 q j (by unfold T_X12_isSign; exact id)).trans (hs q j hq)
    refine f_ite hf (fun hf => ?_) (fun hf => ?_)
    · exact fun q j hq => (f_X12_goesOn_b112 hf q j hq).trans (hs q j hq)
    · exact fun q j hq => (f_X12_goesOn_b106 hf q j hq).trans (hs q j hq)
theorem f_X12_goesOn {F : Nat}  {r : Int} {σ' : mMem} {σ : mMem} (hf : g_X12_goesOn F σ = some (r, σ')) : ∀ q j, ¬ T_X12_goesOn  q j → σ' q j = σ q j := by
  unfold g_X12_goesOn at hf
  have hs : ∀ q j, ¬ T_X12_goesOn  q j → σ q j = σ q j := fun _ _ _ => rfl
  refine f_mob hf (fun r1 σ2 h1 hf => ?_)
  have hs := fun q j hq => (f_X12_lex h1 q j (by unfold T_X12_goesOn at hq; unfold T_X12_lex; omega)).trans (hs q j hq)
  refine f_ite hf (fun hf => ?_) (fun hf => ?_)
  · refine f_let hf (fun y3 hf => ?_)
    refine f_gd hf (fun hf => ?_)
    refine f_let hf (fun y4 hf => ?_)
    refine f_mob hf (fun r5 σ6 h1 hf => ?_)
    have hs := fun q j hq => (f_X12_isTest h1 q j (by unfold T_X12_isTest; exact id)).trans (hs q j hq)
    refine f_gd hf (fun hf => ?_)
    refine f_ite hf (fun hf => ?_) (fun hf => ?_)
    · exact fun q j hq => (f_X12_goesOn_b188 hf q j hq).trans (hs q j hq)
    · refine f_mob hf (fun r7 σ8 h1 hf => ?_)
      have hs := fun q j hq => (f_X12_isSign h1 q j (by unfold T_X12_isSign; exact id)).trans (hs q j hq)
      refine f_ite hf (fun hf => ?_) (fun hf => ?_)
      · exact fun q j hq => (f_X12_goesOn_b87 hf q j hq).trans (hs q j hq)
      · refine f_mob hf (fun r9 σ10 h1 hf => ?_)
        have hs := fun q j hq => (f_X12_isSign h1 q j (by unfold T_X12_isSign; exact id)).trans (hs q j hq)
        refine f_ite hf (fun hf => ?_) (fun hf => ?_)
        · exact fun q j hq => (f_X12_goesOn_b87 hf q j hq).trans (hs q j hq)
        · refine f_mob hf (fun r11 σ12 h1 hf => ?_)
          have hs := fun q j hq => (f_X12_isSign h1 q j (by unfold T_X12_isSign; exact id)).trans (hs q j hq)
          refine f_ite hf (fun hf => ?_) (fun hf => ?_)
          · exact fun q j hq => (f_X12_goesOn_b87 hf q j hq).trans (hs q j hq)
          · refine f_mob hf (fun r13 σ14 h1 hf => ?_)
            have hs := fun q j hq => (f_X12_isSign h1 q j (by unfold T_X12_isSign; exact id)).trans (hs q j hq)
            refine f_ite hf (fun hf => ?_) (fun hf => ?_)
            · exact fun q j hq => (f_X12_goesOn_b87 hf q j hq).trans (hs q j hq)
            · refine f_mob hf (fun r15 σ16 h1 hf => ?_)
              have hs := fun q j hq => (f_X12_isSign h1 q j (by unfold T_X12_isSign; exact id)).trans (hs q j hq)
              refine f_ite hf (fun hf => ?_) (fun hf => ?_)
              · exact fun q j hq => (f_X12_goesOn_b188 hf q j hq).trans (hs q j hq)
              · exact fun q j hq => (f_X12_goesOn_b87 hf q j hq).trans (hs q j hq)
  · refine f_gd hf (fun hf => ?_)
    cases hf
    exact hs
def T_X12_reads  (q j : Nat) : Prop := (q = 86 ∧ (j = 3 ∨ j = 4 ∨ j = 5 ∨ j = 6 ∨ j = 7 ∨ j = 8 ∨ j = 9 ∨ j = 12 ∨ j = 29 ∨ j = 37 ∨ j = 38 ∨ j = 40 ∨ j = 41)) ∨ q = 100 ∨ q = 101 ∨ q = 103 ∨ q = 104 ∨ q = 105 ∨ q = 106 ∨ q = 107 ∨ q = 108
theorem f_X12_reads_b86 {F : Nat}  {r : Int} {σ' : mMem} {k43 : Int → mMem → mRs} (hk43 : ∀ (x2 : Int) (σ : mMem), k43 x2 σ = some (r, σ') → ∀ q j, ¬ T_X12_reads  q j → σ' q j = σ q j) {t0 : Int} {σ : mMem} (hf : g_X12_reads_b86 F k43 t0 σ = some (r, σ')) : ∀ q j, ¬ T_X12_reads  q j → σ' q j = σ q j := by
  unfold g_X12_reads_b86 at hf
  have hs : ∀ q j, ¬ T_X12_reads  q j → σ q j = σ q j := fun _ _ _ => rfl
  exact fun q j hq => (hk43 _ _ hf q j hq).trans (hs q j hq)
theorem f_X12_reads_b85 {F : Nat}  {r : Int} {σ' : mMem} {k43 : Int → mMem → mRs} (hk43 : ∀ (x2 : Int) (σ : mMem), k43 x2 σ = some (r, σ') → ∀ q j, ¬ T_X12_reads  q j → σ' q j = σ q j) {σ : mMem} (hf : g_X12_reads_b85 F k43  σ = some (r, σ')) : ∀ q j, ¬ T_X12_reads  q j → σ' q j = σ q j := by
  unfold g_X12_reads_b85 at hf
  have hs : ∀ q j, ¬ T_X12_reads  q j → σ q j = σ q j := fun _ _ _ => rfl
  exact fun q j hq => (f_X12_reads_b86 hk43 hf q j hq).trans (hs q j hq)
theorem f_X12_reads_b70 {F : Nat}  {r : Int} {σ' : mMem} {k43 : Int → mMem → mRs} (hk43 : ∀ (x2 : Int) (σ : mMem), k43 x2 σ = some (r, σ') → ∀ q j, ¬ T_X12_reads  q j → σ' q j = σ q j) {x2 : Int} {σ : mMem} (hf : g_X12_reads_b70 F k43 x2 σ = some (r, σ')) : ∀ q j, ¬ T_X12_reads  q j → σ' q j = σ q j := by
  unfold g_X12_reads_b70 at hf
  have hs : ∀ q j, ¬ T_X12_reads  q j → σ q j = σ q j := fun _ _ _ => rfl
  refine f_ite hf (fun hf => ?_) (fun hf => ?_)
  · exact fun q j hq => (f_X12_reads_b85 hk43 hf q j hq).trans (hs q j hq)
  · refine f_ite hf (fun hf => ?_) (fun hf => ?_)
    · exact fun q j hq => (f_X12_reads_b85 hk43 hf q j hq).trans (hs q j hq)
    · exact fun q j hq => (f_X12_reads_b86 hk43 hf q j hq).trans (hs q j hq)
theorem f_X12_reads_h43 {F : Nat}  {r : Int} {σ' : mMem}   (n : Nat) : ∀ {x2 : Int} {σ : mMem} (_ : g_X12_reads_h43 F n x2 σ = some (r, σ')), ∀ q j, ¬ T_X12_reads  q j → σ' q j = σ q j := by
  induction n with
  | zero =>
    intro x2 σ hf
    unfold g_X12_reads_h43 at hf
    cases hf
  | succ n ih =>
    have hk43 : ∀ (x2 : Int) (σ : mMem), g_X12_reads_h43 F n x2 σ = some (r, σ') → ∀ q j, ¬ T_X12_reads  q j → σ' q j = σ q j := fun x2 σ hf => ih hf
    intro x2 σ hf
    unfold g_X12_reads_h43 at hf
    have hs : ∀ q j, ¬ T_X12_reads  q j → σ q j = σ q j := fun _ _ _ => rfl
    refine f_ite hf (fun hf => ?_) (fun hf => ?_)
    · cases hf
      exact hs
    · refine f_ite hf (fun hf => ?_) (fun hf => ?_)
      · refine f_mob hf (fun r207 σ208 h1 hf => ?_)
        have hs := fun q j hq => (f_X12_goesOn h1 q j (by unfold T_X12_reads at hq; unfold T_X12_goesOn; omega)).trans (hs q j hq)
        exact fun q j hq => (f_X12_reads_b70 hk43 hf q j hq).trans (hs q j hq)
      · refine f_mob hf (fun r209 σ210 h1 hf => ?_)
        have hs := fun q j hq => (f_X12_operand h1 q j (by unfold T_X12_reads at hq; unfold T_X12_operand; omega)).trans (hs q j hq)
        refine f_gd hf (fun hf => ?_)
        refine f_mem hf (fun q j hq => (mup_ne (by unfold T_X12_reads at hq; omega)).trans (hs q j hq)) (fun σ211 hs hf => ?_)
        exact fun q j hq => (f_X12_reads_b70 hk43 hf q j hq).trans (hs q j hq)
theorem f_X12_reads_b38 {F : Nat}  {r : Int} {σ' : mMem}   {t0 : Int} {σ : mMem} (hf : g_X12_reads_b38 F t0 σ = some (r, σ')) : ∀ q j, ¬ T_X12_reads  q j → σ' q j = σ q j := by
  unfold g_X12_reads_b38 at hf
  have hs : ∀ q j, ¬ T_X12_reads  q j → σ q j = σ q j := fun _ _ _ => rfl
  refine f_mob hf (fun r105 σ106 h1 hf => ?_)
  have hs := fun q j hq => (f_X12_pushes h1 q j (by unfold T_X12_reads at hq; unfold T_X12_pushes; omega)).trans (hs q j hq)
  exact fun q j hq => (f_X12_reads_h43 _ hf q j hq).trans (hs q j hq)
theorem f_X12_reads {F : Nat}  {r : Int} {σ' : mMem} {x1 : Int} {σ : mMem} (hf : g_X12_reads F x1 σ = some (r, σ')) : ∀ q j, ¬ T_X12_reads  q j → σ' q j = σ q j := by
  unfold g_X12_reads at hf
  have hs : ∀ q j, ¬ T_X12_reads  q j → σ q j = σ q j := fun _ _ _ => rfl
  refine f_ite hf (fun hf => ?_) (fun hf => ?_)
  · refine f_mem hf (fun q j hq => (mup_ne (by unfold T_X12_reads at hq; omega)).trans (hs q j hq)) (fun σ1 hs hf => ?_)
    refine f_mem hf (fun q j hq => (mup_ne (by unfold T_X12_reads at hq; omega)).trans (hs q j hq)) (fun σ2 hs hf => ?_)
    refine f_mem hf (fun q j hq => (mup_ne (by unfold T_X12_reads at hq; omega)).trans (hs q j hq)) (fun σ3 hs hf => ?_)
    refine f_gd hf (fun hf => ?_)
    refine f_mem hf (fun q j hq => (mup_ne (by unfold T_X12_reads at hq; omega)).trans (hs q j hq)) (fun σ4 hs hf => ?_)
    refine f_ite hf (fun hf => ?_) (fun hf => ?_)
    · exact fun q j hq => (f_X12_reads_b38 hf q j hq).trans (hs q j hq)
    · exact fun q j hq => (f_X12_reads_b38 hf q j hq).trans (hs q j hq)
  · cases hf
    exact hs
def T_X12_counts  (q j : Nat) : Prop := (q = 86 ∧ (j = 3 ∨ j = 4 ∨ j = 5 ∨ j = 6 ∨ j = 7 ∨ j = 8 ∨ j = 9 ∨ j = 12))
theorem f_X12_counts_b44 {F : Nat}  {r : Int} {σ' : mMem}   {t0 : Int} {σ : mMem} (hf : g_X12_counts_b44 F t0 σ = some (r, σ')) : ∀ q j, ¬ T_X12_counts  q j → σ' q j = σ q j := by
  unfold g_X12_counts_b44 at hf
  have hs : ∀ q j, ¬ T_X12_counts  q j → σ q j = σ q j := fun _ _ _ => rfl
  refine f_gd hf (fun hf => ?_)
  cases hf
  exact hs
theorem f_X12_counts_b32 {F : Nat}  {r : Int} {σ' : mMem}   {σ : mMem} (hf : g_X12_counts_b32 F  σ = some (r, σ')) : ∀ q j, ¬ T_X12_counts  q j → σ' q j = σ q j := by
  unfold g_X12_counts_b32 at hf
  have hs : ∀ q j, ¬ T_X12_counts  q j → σ q j = σ q j := fun _ _ _ => rfl
  refine f_ite hf (fun hf => ?_) (fun hf => ?_)
  · exact fun q j hq => (f_X12_counts_b44 hf q j hq).trans (hs q j hq)
  · exact fun q j hq => (f_X12_counts_b44 hf q j hq).trans (hs q j hq)
theorem f_X12_counts_b21 {F : Nat}  {r : Int} {σ' : mMem}   {σ : mMem} (hf : g_X12_counts_b21 F  σ = some (r, σ')) : ∀ q j, ¬ T_X12_counts  q j → σ' q j = σ q j := by
  unfold g_X12_counts_b21 at hf
  have hs : ∀ q j, ¬ T_X12_counts  q j → σ q j = σ q j := fun _ _ _ => rfl
  refine f_ite hf (fun hf => ?_) (fun hf => ?_)
  · exact fun q j hq => (f_X12_counts_b32 hf q j hq).trans (hs q j hq)
  · refine f_mob hf (fun r103 σ104 h1 hf => ?_)
    have hs := fun q j hq => (f_X12_ahead h1 q j (by unfold T_X12_counts at hq; unfold T_X12_ahead; omega)).trans (hs q j hq)
    exact fun q j hq => (f_X12_counts_b32 hf q j hq).trans (hs q j hq)
theorem f_X12_counts {F : Nat}  {r : Int} {σ' : mMem} {x1 : Int} {σ : mMem} (hf : g_X12_counts F x1 σ = some (r, σ')) : ∀ q j, ¬ T_X12_counts  q j → σ' q j = σ q j := by
  unfold g_X12_counts at hf
  have hs : ∀ q j, ¬ T_X12_counts  q j → σ q j = σ q j := fun _ _ _ => rfl
  refine f_ite hf (fun hf => ?_) (fun hf => ?_)
  · exact fun q j hq => (f_X12_counts_b21 hf q j hq).trans (hs q j hq)
  · refine f_ite hf (fun hf => ?_) (fun hf => ?_)
    · exact fun q j hq => (f_X12_counts_b21 hf q j hq).trans (hs q j hq)
    · refine f_mob hf (fun r1 σ2 h1 hf => ?_)
      have hs := fun q j hq => (f_X12_blame h1 q j (by unfold T_X12_counts at hq; unfold T_X12_blame; omega)).trans (hs q j hq)
      exact fun q j hq => (f_X12_counts_b21 hf q j hq).trans (hs q j hq)
def T_X12_must_  (q j : Nat) : Prop := (q = 86 ∧ (j = 3 ∨ j = 4 ∨ j = 5 ∨ j = 6 ∨ j = 7 ∨ j = 8 ∨ j = 9 ∨ j = 12))
theorem f_X12_must__b40 {F : Nat}  {r : Int} {σ' : mMem}   {σ : mMem} (hf : g_X12_must__b40 F  σ = some (r, σ')) : ∀ q j, ¬ T_X12_must_  q j → σ' q j = σ q j := by
  unfold g_X12_must__b40 at hf
  have hs : ∀ q j, ¬ T_X12_must_  q j → σ q j = σ q j := fun _ _ _ => rfl
  cases hf
  exact hs
theorem f_X12_must__b29 {F : Nat}  {r : Int} {σ' : mMem}   {σ : mMem} (hf : g_X12_must__b29 F  σ = some (r, σ')) : ∀ q j, ¬ T_X12_must_  q j → σ' q j = σ q j := by
  unfold g_X12_must__b29 at hf
  have hs : ∀ q j, ¬ T_X12_must_  q j → σ q j = σ q j := fun _ _ _ => rfl
  refine f_ite hf (fun hf => ?_) (fun hf => ?_)
  · exact fun q j hq => (f_X12_must__b40 hf q j hq).trans (hs q j hq)
  · refine f_mob hf (fun r107 σ108 h1 hf => ?_)
    have hs := fun q j hq => (f_X12_ahead h1 q j (by unfold T_X12_must_ at hq; unfold T_X12_ahead; omega)).trans (hs q j hq)
    exact fun q j hq => (f_X12_must__b40 hf q j hq).trans (hs q j hq)
theorem f_X12_must_ {F : Nat}  {r : Int} {σ' : mMem} {x1 : Int} {σ : mMem} (hf : g_X12_must_ F x1 σ = some (r, σ')) : ∀ q j, ¬ T_X12_must_  q j → σ' q j = σ q j := by
  unfold g_X12_must_ at hf
  have hs : ∀ q j, ¬ T_X12_must_  q j → σ q j = σ q j := fun _ _ _ => rfl
  refine f_mob hf (fun r1 σ2 h1 hf => ?_)
  have hs := fun q j hq => (f_X12_lex h1 q j (by unfold T_X12_must_ at hq; unfold T_X12_lex; omega)).trans (hs q j hq)
  refine f_ite hf (fun hf => ?_) (fun hf => ?_)
  · refine f_mob hf (fun r3 σ4 h1 hf => ?_)
    have hs := fun q j hq => (f_X12_isWord h1 q j (by unfold T_X12_isWord; exact id)).trans (hs q j hq)
    refine f_ite hf (fun hf => ?_) (fun hf => ?_)
    · exact fun q j hq => (f_X12_must__b29 hf q j hq).trans (hs q j hq)
    · refine f_mob hf (fun r5 σ6 h1 hf => ?_)
      have hs := fun q j hq => (f_X12_blame h1 q j (by unfold T_X12_must_ at hq; unfold T_X12_blame; omega)).trans (hs q j hq)
      exact fun q j hq => (f_X12_must__b29 hf q j hq).trans (hs q j hq)
  · cases hf
    exact hs
def T_X12_fresh  (q j : Nat) : Prop := (q = 86 ∧ (j = 3 ∨ j = 4 ∨ j = 5 ∨ j = 6 ∨ j = 7 ∨ j = 8 ∨ j = 9 ∨ j = 12))
theorem f_X12_fresh_b85 {F : Nat}  {r : Int} {σ' : mMem}   {x1 : Int} {σ : mMem} (hf : g_X12_fresh_b85 F x1 σ = some (r, σ')) : ∀ q j, ¬ T_X12_fresh  q j → σ' q j = σ q j := by
  unfold g_X12_fresh_b85 at hf
  have hs : ∀ q j, ¬ T_X12_fresh  q j → σ q j = σ q j := fun _ _ _ => rfl
  cases hf
  exact hs
theorem f_X12_fresh_b69 {F : Nat}  {r : Int} {σ' : mMem}   {σ : mMem} (hf : g_X12_fresh_b69 F  σ = some (r, σ')) : ∀ q j, ¬ T_X12_fresh  q j → σ' q j = σ q j := by
  unfold g_X12_fresh_b69 at hf
  have hs : ∀ q j, ¬ T_X12_fresh  q j → σ q j = σ q j := fun _ _ _ => rfl
  refine f_let hf (fun y311 hf => ?_)
  refine f_ite hf (fun hf => ?_) (fun hf => ?_)
  · exact fun q j hq => (f_X12_fresh_b85 hf q j hq).trans (hs q j hq)
  · refine f_mob hf (fun r312 σ313 h1 hf => ?_)
    have hs := fun q j hq => (f_X12_ahead h1 q j (by unfold T_X12_fresh at hq; unfold T_X12_ahead; omega)).trans (hs q j hq)
    exact fun q j hq => (f_X12_fresh_b85 hf q j hq).trans (hs q j hq)
theorem f_X12_fresh_b41 {F : Nat}  {r : Int} {σ' : mMem}   {σ : mMem} (hf : g_X12_fresh_b41 F  σ = some (r, σ')) : ∀ q j, ¬ T_X12_fresh  q j → σ' q j = σ q j := by
  unfold g_X12_fresh_b41 at hf
  have hs : ∀ q j, ¬ T_X12_fresh  q j → σ q j = σ q j := fun _ _ _ => rfl
  refine f_ite hf (fun hf => ?_) (fun hf => ?_)
  · exact fun q j hq => (f_X12_fresh_b69 hf q j hq).trans (hs q j hq)
  · refine f_mob hf (fun r105 σ106 h1 hf => ?_)
    have hs := fun q j hq => (f_X12_named h1 q j (by unfold T_X12_named; exact id)).trans (hs q j hq)
    refine f_ite hf (fun hf => ?_) (fun hf => ?_)
    · exact fun q j hq => (f_X12_fresh_b69 hf q j hq).trans (hs q j hq)
    · refine f_mob hf (fun r107 σ108 h1 hf => ?_)
      have hs := fun q j hq => (f_X12_blame h1 q j (by unfold T_X12_fresh at hq; unfold T_X12_blame; omega)).trans (hs q j hq)
      exact fun q j hq => (f_X12_fresh_b69 hf q j hq).trans (hs q j hq)
theorem f_X12_fresh_b32 {F : Nat}  {r : Int} {σ' : mMem}   {σ : mMem} (hf : g_X12_fresh_b32 F  σ = some (r, σ')) : ∀ q j, ¬ T_X12_fresh  q j → σ' q j = σ q j := by
  unfold g_X12_fresh_b32 at hf
  have hs : ∀ q j, ¬ T_X12_fresh  q j → σ q j = σ q j := fun _ _ _ => rfl
  refine f_mob hf (fun r209 σ210 h1 hf => ?_)
  have hs := fun q j hq => (f_X12_blame h1 q j (by unfold T_X12_fresh at hq; unfold T_X12_blame; omega)).trans (hs q j hq)
  exact fun q j hq => (f_X12_fresh_b41 hf q j hq).trans (hs q j hq)
theorem f_X12_fresh {F : Nat}  {r : Int} {σ' : mMem} {σ : mMem} (hf : g_X12_fresh F σ = some (r, σ')) : ∀ q j, ¬ T_X12_fresh  q j → σ' q j = σ q j := by
  unfold g_X12_fresh at hf
  have hs : ∀ q j, ¬ T_X12_fresh  q j → σ q j = σ q j := fun _ _ _ => rfl
  refine f_mob hf (fun r1 σ2 h1 hf => ?_)
  have hs := fun q j hq => (f_X12_lex h1 q j (by unfold T_X12_fresh at hq; unfold T_X12_lex; omega)).trans (hs q j hq)
  refine f_ite hf (fun hf => ?_) (fun hf => ?_)
  · refine f_ite hf (fun hf => ?_) (fun hf => ?_)
    · exact fun q j hq => (f_X12_fresh_b32 hf q j hq).trans (hs q j hq)
    · refine f_mob hf (fun r3 σ4 h1 hf => ?_)
      have hs := fun q j hq => (f_X12_isOwn h1 q j (by unfold T_X12_isOwn; exact id)).trans (hs q j hq)
      refine f_ite hf (fun hf => ?_) (fun hf => ?_)
      · exact fun q j hq => (f_X12_fresh_b41 hf q j hq).trans (hs q j hq)
      · exact fun q j hq => (f_X12_fresh_b32 hf q j hq).trans (hs q j hq)
  · cases hf
    exact hs
def T_X12_known  (q j : Nat) : Prop := (q = 86 ∧ (j = 3 ∨ j = 4 ∨ j = 5 ∨ j = 6 ∨ j = 7 ∨ j = 8 ∨ j = 9 ∨ j = 12))
theorem f_X12_known_b105 {F : Nat}  {r : Int} {σ' : mMem}   {t0 : Int} {σ : mMem} (hf : g_X12_known_b105 F t0 σ = some (r, σ')) : ∀ q j, ¬ T_X12_known  q j → σ' q j = σ q j := by
  unfold g_X12_known_b105 at hf
  have hs : ∀ q j, ¬ T_X12_known  q j → σ q j = σ q j := fun _ _ _ => rfl
  cases hf
  exact hs
theorem f_X12_known_b93 {F : Nat}  {r : Int} {σ' : mMem}   {x1 : Int} {σ : mMem} (hf : g_X12_known_b93 F x1 σ = some (r, σ')) : ∀ q j, ¬ T_X12_known  q j → σ' q j = σ q j := by
  unfold g_X12_known_b93 at hf
  have hs : ∀ q j, ¬ T_X12_known  q j → σ q j = σ q j := fun _ _ _ => rfl
  refine f_ite hf (fun hf => ?_) (fun hf => ?_)
  · exact fun q j hq => (f_X12_known_b105 hf q j hq).trans (hs q j hq)
  · exact fun q j hq => (f_X12_known_b105 hf q j hq).trans (hs q j hq)
theorem f_X12_known_b82 {F : Nat}  {r : Int} {σ' : mMem}   {x1 : Int} {σ : mMem} (hf : g_X12_known_b82 F x1 σ = some (r, σ')) : ∀ q j, ¬ T_X12_known  q j → σ' q j = σ q j := by
  unfold g_X12_known_b82 at hf
  have hs : ∀ q j, ¬ T_X12_known  q j → σ q j = σ q j := fun _ _ _ => rfl
  refine f_ite hf (fun hf => ?_) (fun hf => ?_)
  · exact fun q j hq => (f_X12_known_b93 hf q j hq).trans (hs q j hq)
  · refine f_mob hf (fun r411 σ412 h1 hf => ?_)
    have hs := fun q j hq => (f_X12_ahead h1 q j (by unfold T_X12_known at hq; unfold T_X12_ahead; omega)).trans (hs q j hq)
    exact fun q j hq => (f_X12_known_b93 hf q j hq).trans (hs q j hq)
theorem f_X12_known_b60 {F : Nat}  {r : Int} {σ' : mMem}   {t0 : Int} {σ : mMem} (hf : g_X12_known_b60 F t0 σ = some (r, σ')) : ∀ q j, ¬ T_X12_known  q j → σ' q j = σ q j := by
  unfold g_X12_known_b60 at hf
  have hs : ∀ q j, ¬ T_X12_known  q j → σ q j = σ q j := fun _ _ _ => rfl
  refine f_ite hf (fun hf => ?_) (fun hf => ?_)
  · exact fun q j hq => (f_X12_known_b82 hf q j hq).trans (hs q j hq)
  · refine f_ite hf (fun hf => ?_) (fun hf => ?_)
    · exact fun q j hq => (f_X12_known_b82 hf q j hq).trans (hs q j hq)
    · refine f_mob hf (fun r309 σ310 h1 hf => ?_)
      have hs := fun q j hq => (f_X12_blame h1 q j (by unfold T_X12_known at hq; unfold T_X12_blame; omega)).trans (hs q j hq)
      exact fun q j hq => (f_X12_known_b82 hf q j hq).trans (hs q j hq)
theorem f_X12_known_b41 {F : Nat}  {r : Int} {σ' : mMem}   {σ : mMem} (hf : g_X12_known_b41 F  σ = some (r, σ')) : ∀ q j, ¬ T_X12_known  q j → σ' q j = σ q j := by
  unfold g_X12_known_b41 at hf
  have hs : ∀ q j, ¬ T_X12_known  q j → σ q j = σ q j := fun _ _ _ => rfl
  refine f_ite hf (fun hf => ?_) (fun hf => ?_)
  · refine f_mob hf (fun r105 σ106 h1 hf => ?_)
    have hs := fun q j hq => (f_X12_named h1 q j (by unfold T_X12_named; exact id)).trans (hs q j hq)
    exact fun q j hq => (f_X12_known_b60 hf q j hq).trans (hs q j hq)
  · exact fun q j hq => (f_X12_known_b60 hf q j hq).trans (hs q j hq)
theorem f_X12_known_b32 {F : Nat}  {r : Int} {σ' : mMem}   {σ : mMem} (hf : g_X12_known_b32 F  σ = some (r, σ')) : ∀ q j, ¬ T_X12_known  q j → σ' q j = σ q j := by
  unfold g_X12_known_b32 at hf
  have hs : ∀ q j, ¬ T_X12_known  q j → σ q j = σ q j := fun _ _ _ => rfl
  refine f_mob hf (fun r207 σ208 h1 hf => ?_)
  have hs := fun q j hq => (f_X12_blame h1 q j (by unfold T_X12_known at hq; unfold T_X12_blame; omega)).trans (hs q j hq)
  exact fun q j hq => (f_X12_known_b41 hf q j hq).trans (hs q j hq)
theorem f_X12_known {F : Nat}  {r : Int} {σ' : mMem} {σ : mMem} (hf : g_X12_known F σ = some (r, σ')) : ∀ q j, ¬ T_X12_known  q j → σ' q j = σ q j := by
  unfold g_X12_known at hf
  have hs : ∀ q j, ¬ T_X12_known  q j → σ q j = σ q j := fun _ _ _ => rfl
  refine f_mob hf (fun r1 σ2 h1 hf => ?_)
  have hs := fun q j hq => (f_X12_lex h1 q j (by unfold T_X12_known at hq; unfold T_X12_lex; omega)).trans (hs q j hq)
  refine f_ite hf (fun hf => ?_) (fun hf => ?_)
  · refine f_ite hf (fun hf => ?_) (fun hf => ?_)
    · exact fun q j hq => (f_X12_known_b32 hf q j hq).trans (hs q j hq)
    · refine f_mob hf (fun r3 σ4 h1 hf => ?_)
      have hs := fun q j hq => (f_X12_isOwn h1 q j (by unfold T_X12_isOwn; exact id)).trans (hs q j hq)
      refine f_ite hf (fun hf => ?_) (fun hf => ?_)
      · exact fun q j hq => (f_X12_known_b41 hf q j hq).trans (hs q j hq)
      · exact fun q j hq => (f_X12_known_b32 hf q j hq).trans (hs q j hq)
  · cases hf
    exact hs
def T_X12_begins  (q j : Nat) : Prop := (q = 86 ∧ (j = 3 ∨ j = 4 ∨ j = 5 ∨ j = 6 ∨ j = 7 ∨ j = 8 ∨ j = 9 ∨ j = 12)) ∨ q = 88 ∨ q = 89 ∨ q = 90
theorem f_X12_begins_h48 {F : Nat}  {r : Int} {σ' : mMem}   (n : Nat) : ∀ {x1 : Int} {σ : mMem} (_ : g_X12_begins_h48 F n x1 σ = some (r, σ')), ∀ q j, ¬ T_X12_begins  q j → σ' q j = σ q j := by
  induction n with
  | zero =>
    intro x1 σ hf
    unfold g_X12_begins_h48 at hf
    cases hf
  | succ n ih =>
    have hk48 : ∀ (x1 : Int) (σ : mMem), g_X12_begins_h48 F n x1 σ = some (r, σ') → ∀ q j, ¬ T_X12_begins  q j → σ' q j = σ q j := fun x1 σ hf => ih hf
    intro x1 σ hf
    unfold g_X12_begins_h48 at hf
    have hs : ∀ q j, ¬ T_X12_begins  q j → σ q j = σ q j := fun _ _ _ => rfl
    refine f_ite hf (fun hf => ?_) (fun hf => ?_)
    · cases hf
      exact hs
    · refine f_gd hf (fun hf => ?_)
      refine f_mem hf (fun q j hq => (mup_ne (by unfold T_X12_begins at hq; omega)).trans (hs q j hq)) (fun σ111 hs hf => ?_)
      exact fun q j hq => (hk48 _ _ hf q j hq).trans (hs q j hq)
theorem f_X12_begins {F : Nat}  {r : Int} {σ' : mMem} {σ : mMem} (hf : g_X12_begins F σ = some (r, σ')) : ∀ q j, ¬ T_X12_begins  q j → σ' q j = σ q j := by
  unfold g_X12_begins at hf
  have hs : ∀ q j, ¬ T_X12_begins  q j → σ q j = σ q j := fun _ _ _ => rfl
  refine f_mob hf (fun r1 σ2 h1 hf => ?_)
  have hs := fun q j hq => (f_X12_must_ h1 q j (by unfold T_X12_begins at hq; unfold T_X12_must_; omega)).trans (hs q j hq)
  refine f_mob hf (fun r3 σ4 h1 hf => ?_)
  have hs := fun q j hq => (f_X12_number h1 q j (by unfold T_X12_begins at hq; unfold T_X12_number; omega)).trans (hs q j hq)
  refine f_gd hf (fun hf => ?_)
  refine f_mem hf (fun q j hq => (mup_ne (by unfold T_X12_begins at hq; omega)).trans (hs q j hq)) (fun σ5 hs hf => ?_)
  refine f_mob hf (fun r6 σ7 h1 hf => ?_)
  have hs := fun q j hq => (f_X12_must_ h1 q j (by unfold T_X12_begins at hq; unfold T_X12_must_; omega)).trans (hs q j hq)
  refine f_mob hf (fun r8 σ9 h1 hf => ?_)
  have hs := fun q j hq => (f_X12_number h1 q j (by unfold T_X12_begins at hq; unfold T_X12_number; omega)).trans (hs q j hq)
  refine f_gd hf (fun hf => ?_)
  refine f_mem hf (fun q j hq => (mup_ne (by unfold T_X12_begins at hq; omega)).trans (hs q j hq)) (fun σ10 hs hf => ?_)
  exact fun q j hq => (f_X12_begins_h48 _ hf q j hq).trans (hs q j hq)
def T_X12_greying  (q j : Nat) : Prop := (q = 86 ∧ (j = 3 ∨ j = 4 ∨ j = 5 ∨ j = 6 ∨ j = 7 ∨ j = 8 ∨ j = 9 ∨ j = 12)) ∨ q = 90
theorem f_X12_greying_b78 {F : Nat}  {r : Int} {σ' : mMem}   {σ : mMem} (hf : g_X12_greying_b78 F  σ = some (r, σ')) : ∀ q j, ¬ T_X12_greying  q j → σ' q j = σ q j := by
  unfold g_X12_greying_b78 at hf
  have hs : ∀ q j, ¬ T_X12_greying  q j → σ q j = σ q j := fun _ _ _ => rfl
  cases hf
  exact hs
theorem f_X12_greying {F : Nat}  {r : Int} {σ' : mMem} {σ : mMem} (hf : g_X12_greying F σ = some (r, σ')) : ∀ q j, ¬ T_X12_greying  q j → σ' q j = σ q j := by
  unfold g_X12_greying at hf
  have hs : ∀ q j, ¬ T_X12_greying  q j → σ q j = σ q j := fun _ _ _ => rfl
  refine f_mob hf (fun r1 σ2 h1 hf => ?_)
  have hs := fun q j hq => (f_X12_counts h1 q j (by unfold T_X12_greying at hq; unfold T_X12_counts; omega)).trans (hs q j hq)
  refine f_ite hf (fun hf => ?_) (fun hf => ?_)
  · refine f_gd hf (fun hf => ?_)
    refine f_mob hf (fun r3 σ4 h1 hf => ?_)
    have hs := fun q j hq => (f_X12_number h1 q j (by unfold T_X12_greying at hq; unfold T_X12_number; omega)).trans (hs q j hq)
    refine f_gd hf (fun hf => ?_)
    refine f_mob hf (fun r5 σ6 h1 hf => ?_)
    have hs := fun q j hq => (f_X12_number h1 q j (by unfold T_X12_greying at hq; unfold T_X12_number; omega)).trans (hs q j hq)
    refine f_mob hf (fun r7 σ8 h1 hf => ?_)
    have hs := fun q j hq => (f_X12_number h1 q j (by unfold T_X12_greying at hq; unfold T_X12_number; omega)).trans (hs q j hq)
    refine f_ite hf (fun hf => ?_) (fun hf => ?_)
    · exact fun q j hq => (f_X12_greying_b78 hf q j hq).trans (hs q j hq)
    · refine f_gd hf (fun hf => ?_)
      refine f_mem hf (fun q j hq => (mup_ne (by unfold T_X12_greying at hq; omega)).trans (hs q j hq)) (fun σ9 hs hf => ?_)
      exact fun q j hq => (f_X12_greying_b78 hf q j hq).trans (hs q j hq)
  · cases hf
    exact hs
def T_X12_boxing  (q j : Nat) : Prop := (q = 86 ∧ (j = 3 ∨ j = 4 ∨ j = 5 ∨ j = 6 ∨ j = 7 ∨ j = 8 ∨ j = 9 ∨ j = 12)) ∨ q = 91 ∨ q = 92 ∨ q = 93 ∨ q = 94 ∨ q = 95 ∨ q = 96 ∨ q = 102
theorem f_X12_boxing_b240 {F : Nat}  {r : Int} {σ' : mMem}   {σ : mMem} (hf : g_X12_boxing_b240 F  σ = some (r, σ')) : ∀ q j, ¬ T_X12_boxing  q j → σ' q j = σ q j := by
  unfold g_X12_boxing_b240 at hf
  have hs : ∀ q j, ¬ T_X12_boxing  q j → σ q j = σ q j := fun _ _ _ => rfl
  cases hf
  exact hs
theorem f_X12_boxing_b167 {F : Nat}  {r : Int} {σ' : mMem}   {x1 x2 x4 : Int} {σ : mMem} (hf : g_X12_boxing_b167 F x1 x2 x4 σ = some (r, σ')) : ∀ q j, ¬ T_X12_boxing  q j → σ' q j = σ q j := by
  unfold g_X12_boxing_b167 at hf
  have hs : ∀ q j, ¬ T_X12_boxing  q j → σ q j = σ q j := fun _ _ _ => rfl
  refine f_gd hf (fun hf => ?_)
  refine f_mem hf (fun q j hq => (mup_ne (by unfold T_X12_boxing at hq; omega)).trans (hs q j hq)) (fun σ318 hs hf => ?_)
  refine f_mob hf (fun r319 σ320 h1 hf => ?_)
  have hs := fun q j hq => (f_X12_must_ h1 q j (by unfold T_X12_boxing at hq; unfold T_X12_must_; omega)).trans (hs q j hq)
  refine f_mob hf (fun r321 σ322 h1 hf => ?_)
  have hs := fun q j hq => (f_X12_number h1 q j (by unfold T_X12_boxing at hq; unfold T_X12_number; omega)).trans (hs q j hq)
  refine f_gd hf (fun hf => ?_)
  refine f_mem hf (fun q j hq => (mup_ne (by unfold T_X12_boxing at hq; omega)).trans (hs q j hq)) (fun σ323 hs hf => ?_)
  refine f_gd hf (fun hf => ?_)
  refine f_mem hf (fun q j hq => (mup_ne (by unfold T_X12_boxing at hq; omega)).trans (hs q j hq)) (fun σ324 hs hf => ?_)
  refine f_gd hf (fun hf => ?_)
  refine f_mem hf (fun q j hq => (mup_ne (by unfold T_X12_boxing at hq; omega)).trans (hs q j hq)) (fun σ325 hs hf => ?_)
  refine f_gd hf (fun hf => ?_)
  refine f_mem hf (fun q j hq => (mup_ne (by unfold T_X12_boxing at hq; omega)).trans (hs q j hq)) (fun σ326 hs hf => ?_)
  refine f_ite hf (fun hf => ?_) (fun hf => ?_)
  · exact fun q j hq => (f_X12_boxing_b240 hf q j hq).trans (hs q j hq)
  · refine f_gd hf (fun hf => ?_)
    refine f_gd hf (fun hf => ?_)
    refine f_mem hf (fun q j hq => (mup_ne (by unfold T_X12_boxing at hq; omega)).trans (hs q j hq)) (fun σ327 hs hf => ?_)
    exact fun q j hq => (f_X12_boxing_b240 hf q j hq).trans (hs q j hq)
theorem f_X12_boxing_b161 {F : Nat}  {r : Int} {σ' : mMem} {k109 : Int → Int → Int → Int → Int → mMem → mRs} (hk109 : ∀ (x1 x2 x3 x4 x5 : Int) (σ : mMem), k109 x1 x2 x3 x4 x5 σ = some (r, σ') → ∀ q j, ¬ T_X12_boxing  q j → σ' q j = σ q j) {x1 x2 x3 x4 x5 : Int} {σ : mMem} (hf : g_X12_boxing_b161 F k109 x1 x2 x3 x4 x5 σ = some (r, σ')) : ∀ q j, ¬ T_X12_boxing  q j → σ' q j = σ q j := by
  unfold g_X12_boxing_b161 at hf
  have hs : ∀ q j, ¬ T_X12_boxing  q j → σ q j = σ q j := fun _ _ _ => rfl
  exact fun q j hq => (hk109 _ _ _ _ _ _ hf q j hq).trans (hs q j hq)
theorem f_X12_boxing_h109 {F : Nat}  {r : Int} {σ' : mMem}   (n : Nat) : ∀ {x1 x2 x3 x4 x5 : Int} {σ : mMem} (_ : g_X12_boxing_h109 F n x1 x2 x3 x4 x5 σ = some (r, σ')), ∀ q j, ¬ T_X12_boxing  q j → σ' q j = σ q j := by
  induction n with
  | zero =>
    intro x1 x2 x3 x4 x5 σ hf
    unfold g_X12_boxing_h109 at hf
    cases hf
  | succ n ih =>
    have hk109 : ∀ (x1 x2 x3 x4 x5 : Int) (σ : mMem), g_X12_boxing_h109 F n x1 x2 x3 x4 x5 σ = some (r, σ') → ∀ q j, ¬ T_X12_boxing  q j → σ' q j = σ q j := fun x1 x2 x3 x4 x5 σ hf => ih hf
    intro x1 x2 x3 x4 x5 σ hf
    unfold g_X12_boxing_h109 at hf
    have hs : ∀ q j, ¬ T_X12_boxing  q j → σ q j = σ q j := fun _ _ _ => rfl
    refine f_gd hf (fun hf => ?_)
    refine f_ite hf (fun hf => ?_) (fun hf => ?_)
    · exact fun q j hq => (f_X12_boxing_b167 hf q j hq).trans (hs q j hq)
    · refine f_ite hf (fun hf => ?_) (fun hf => ?_)
      · exact fun q j hq => (f_X12_boxing_b167 hf q j hq).trans (hs q j hq)
      · refine f_gd hf (fun hf => ?_)
        refine f_ite hf (fun hf => ?_) (fun hf => ?_)
        · exact fun q j hq => (f_X12_boxing_b161 hk109 hf q j hq).trans (hs q j hq)
        · refine f_mob hf (fun r216 σ217 h1 hf => ?_)
          have hs := fun q j hq => (f_X12_blame h1 q j (by unfold T_X12_boxing at hq; unfold T_X12_blame; omega)).trans (hs q j hq)
          exact fun q j hq => (f_X12_boxing_b161 hk109 hf q j hq).trans (hs q j hq)
theorem f_X12_boxing_b20 {F : Nat}  {r : Int} {σ' : mMem}   {t0 : Int} {σ : mMem} (hf : g_X12_boxing_b20 F t0 σ = some (r, σ')) : ∀ q j, ¬ T_X12_boxing  q j → σ' q j = σ q j := by
  unfold g_X12_boxing_b20 at hf
  have hs : ∀ q j, ¬ T_X12_boxing  q j → σ q j = σ q j := fun _ _ _ => rfl
  refine f_mob hf (fun r101 σ102 h1 hf => ?_)
  have hs := fun q j hq => (f_X12_counts h1 q j (by unfold T_X12_boxing at hq; unfold T_X12_counts; omega)).trans (hs q j hq)
  refine f_ite hf (fun hf => ?_) (fun hf => ?_)
  · refine f_gd hf (fun hf => ?_)
    refine f_let hf (fun y103 hf => ?_)
    refine f_mob hf (fun r104 σ105 h1 hf => ?_)
    have hs := fun q j hq => (f_X12_fresh h1 q j (by unfold T_X12_boxing at hq; unfold T_X12_fresh; omega)).trans (hs q j hq)
    refine f_gd hf (fun hf => ?_)
    refine f_mem hf (fun q j hq => (mup_ne (by unfold T_X12_boxing at hq; omega)).trans (hs q j hq)) (fun σ106 hs hf => ?_)
    refine f_mob hf (fun r107 σ108 h1 hf => ?_)
    have hs := fun q j hq => (f_X12_must_ h1 q j (by unfold T_X12_boxing at hq; unfold T_X12_must_; omega)).trans (hs q j hq)
    refine f_gd hf (fun hf => ?_)
    refine f_mob hf (fun r109 σ110 h1 hf => ?_)
    have hs := fun q j hq => (f_X12_number h1 q j (by unfold T_X12_boxing at hq; unfold T_X12_number; omega)).trans (hs q j hq)
    refine f_mob hf (fun r111 σ112 h1 hf => ?_)
    have hs := fun q j hq => (f_X12_lex h1 q j (by unfold T_X12_boxing at hq; unfold T_X12_lex; omega)).trans (hs q j hq)
    refine f_let hf (fun y113 hf => ?_)
    refine f_gd hf (fun hf => ?_)
    refine f_mob hf (fun r114 σ115 h1 hf => ?_)
    have hs := fun q j hq => (f_X12_number h1 q j (by unfold T_X12_boxing at hq; unfold T_X12_number; omega)).trans (hs q j hq)
    exact fun q j hq => (f_X12_boxing_h109 _ hf q j hq).trans (hs q j hq)
  · cases hf
    exact hs
theorem f_X12_boxing {F : Nat}  {r : Int} {σ' : mMem} {σ : mMem} (hf : g_X12_boxing F σ = some (r, σ')) : ∀ q j, ¬ T_X12_boxing  q j → σ' q j = σ q j := by
  unfold g_X12_boxing at hf
  have hs : ∀ q j, ¬ T_X12_boxing  q j → σ q j = σ q j := fun _ _ _ => rfl
  refine f_gd hf (fun hf => ?_)
  refine f_ite hf (fun hf => ?_) (fun hf => ?_)
  · exact fun q j hq => (f_X12_boxing_b20 hf q j hq).trans (hs q j hq)
  · exact fun q j hq => (f_X12_boxing_b20 hf q j hq).trans (hs q j hq)
def T_X12_eyeing  (q j : Nat) : Prop := (q = 86 ∧ (j = 3 ∨ j = 4 ∨ j = 5 ∨ j = 6 ∨ j = 7 ∨ j = 8 ∨ j = 9 ∨ j = 12)) ∨ q = 94 ∨ q = 95
theorem f_X12_eyeing {F : Nat}  {r : Int} {σ' : mMem} {σ : mMem} (hf : g_X12_eyeing F σ = some (r, σ')) : ∀ q j, ¬ T_X12_eyeing  q j → σ' q j = σ q j := by
  unfold g_X12_eyeing at hf
  have hs : ∀ q j, ¬ T_X12_eyeing  q j → σ q j = σ q j := fun _ _ _ => rfl
  refine f_mob hf (fun r1 σ2 h1 hf => ?_)
  have hs := fun q j hq => (f_X12_counts h1 q j (by unfold T_X12_eyeing at hq; unfold T_X12_counts; omega)).trans (hs q j hq)
  refine f_ite hf (fun hf => ?_) (fun hf => ?_)
  · refine f_mob hf (fun r3 σ4 h1 hf => ?_)
    have hs := fun q j hq => (f_X12_known h1 q j (by unfold T_X12_eyeing at hq; unfold T_X12_known; omega)).trans (hs q j hq)
    refine f_let hf (fun y5 hf => ?_)
    refine f_mob hf (fun r6 σ7 h1 hf => ?_)
    have hs := fun q j hq => (f_X12_must_ h1 q j (by unfold T_X12_eyeing at hq; unfold T_X12_must_; omega)).trans (hs q j hq)
    refine f_mob hf (fun r8 σ9 h1 hf => ?_)
    have hs := fun q j hq => (f_X12_number h1 q j (by unfold T_X12_eyeing at hq; unfold T_X12_number; omega)).trans (hs q j hq)
    refine f_mob hf (fun r10 σ11 h1 hf => ?_)
    have hs := fun q j hq => (f_X12_must_ h1 q j (by unfold T_X12_eyeing at hq; unfold T_X12_must_; omega)).trans (hs q j hq)
    refine f_mob hf (fun r12 σ13 h1 hf => ?_)
    have hs := fun q j hq => (f_X12_number h1 q j (by unfold T_X12_eyeing at hq; unfold T_X12_number; omega)).trans (hs q j hq)
    refine f_ite hf (fun hf => ?_) (fun hf => ?_)
    · refine f_gd hf (fun hf => ?_)
      refine f_mem hf (fun q j hq => (mup_ne (by unfold T_X12_eyeing at hq; omega)).trans (hs q j hq)) (fun σ14 hs hf => ?_)
      refine f_gd hf (fun hf => ?_)
      refine f_mem hf (fun q j hq => (mup_ne (by unfold T_X12_eyeing at hq; omega)).trans (hs q j hq)) (fun σ15 hs hf => ?_)
      cases hf
      exact hs
    · cases hf
      exact hs
  · cases hf
    exact hs
def T_X12_biasing  (q j : Nat) : Prop := (q = 86 ∧ (j = 3 ∨ j = 4 ∨ j = 5 ∨ j = 6 ∨ j = 7 ∨ j = 8 ∨ j = 9 ∨ j = 12)) ∨ q = 96
theorem f_X12_biasing_b44 {F : Nat}  {r : Int} {σ' : mMem}   {σ : mMem} (hf : g_X12_biasing_b44 F  σ = some (r, σ')) : ∀ q j, ¬ T_X12_biasing  q j → σ' q j = σ q j := by
  unfold g_X12_biasing_b44 at hf
  have hs : ∀ q j, ¬ T_X12_biasing  q j → σ q j = σ q j := fun _ _ _ => rfl
  cases hf
  exact hs
theorem f_X12_biasing {F : Nat}  {r : Int} {σ' : mMem} {σ : mMem} (hf : g_X12_biasing F σ = some (r, σ')) : ∀ q j, ¬ T_X12_biasing  q j → σ' q j = σ q j := by
  unfold g_X12_biasing at hf
  have hs : ∀ q j, ¬ T_X12_biasing  q j → σ q j = σ q j := fun _ _ _ => rfl
  refine f_mob hf (fun r1 σ2 h1 hf => ?_)
  have hs := fun q j hq => (f_X12_counts h1 q j (by unfold T_X12_biasing at hq; unfold T_X12_counts; omega)).trans (hs q j hq)
  refine f_ite hf (fun hf => ?_) (fun hf => ?_)
  · refine f_mob hf (fun r3 σ4 h1 hf => ?_)
    have hs := fun q j hq => (f_X12_known h1 q j (by unfold T_X12_biasing at hq; unfold T_X12_known; omega)).trans (hs q j hq)
    refine f_let hf (fun y5 hf => ?_)
    refine f_mob hf (fun r6 σ7 h1 hf => ?_)
    have hs := fun q j hq => (f_X12_number h1 q j (by unfold T_X12_biasing at hq; unfold T_X12_number; omega)).trans (hs q j hq)
    refine f_ite hf (fun hf => ?_) (fun hf => ?_)
    · exact fun q j hq => (f_X12_biasing_b44 hf q j hq).trans (hs q j hq)
    · refine f_gd hf (fun hf => ?_)
      refine f_mem hf (fun q j hq => (mup_ne (by unfold T_X12_biasing at hq; omega)).trans (hs q j hq)) (fun σ8 hs hf => ?_)
      exact fun q j hq => (f_X12_biasing_b44 hf q j hq).trans (hs q j hq)
  · cases hf
    exact hs
def T_X12_reading  (q j : Nat) : Prop := (q = 86 ∧ (j = 3 ∨ j = 4 ∨ j = 5 ∨ j = 6 ∨ j = 7 ∨ j = 8 ∨ j = 9 ∨ j = 12 ∨ j = 29 ∨ j = 31 ∨ j = 37 ∨ j = 38 ∨ j = 40 ∨ j = 41)) ∨ q = 98 ∨ q = 99 ∨ q = 100 ∨ q = 101 ∨ q = 103 ∨ q = 104 ∨ q = 105 ∨ q = 106 ∨ q = 107 ∨ q = 108
theorem f_X12_reading_b67 {F : Nat}  {r : Int} {σ' : mMem}   {x2 t0 : Int} {σ : mMem} (hf : g_X12_reading_b67 F x2 t0 σ = some (r, σ')) : ∀ q j, ¬ T_X12_reading  q j → σ' q j = σ q j := by
  unfold g_X12_reading_b67 at hf
  have hs : ∀ q j, ¬ T_X12_reading  q j → σ q j = σ q j := fun _ _ _ => rfl
  refine f_mob hf (fun r306 σ307 h1 hf => ?_)
  have hs := fun q j hq => (f_X12_reads h1 q j (by unfold T_X12_reading at hq; unfold T_X12_reads; omega)).trans (hs q j hq)
  refine f_gd hf (fun hf => ?_)
  refine f_mem hf (fun q j hq => (mup_ne (by unfold T_X12_reading at hq; omega)).trans (hs q j hq)) (fun σ308 hs hf => ?_)
  cases hf
  exact hs
theorem f_X12_reading_b43 {F : Nat}  {r : Int} {σ' : mMem}   {x1 x2 t0 : Int} {σ : mMem} (hf : g_X12_reading_b43 F x1 x2 t0 σ = some (r, σ')) : ∀ q j, ¬ T_X12_reading  q j → σ' q j = σ q j := by
  unfold g_X12_reading_b43 at hf
  have hs : ∀ q j, ¬ T_X12_reading  q j → σ q j = σ q j := fun _ _ _ => rfl
  refine f_gd hf (fun hf => ?_)
  refine f_mem hf (fun q j hq => (mup_ne (by unfold T_X12_reading at hq; omega)).trans (hs q j hq)) (fun σ204 hs hf => ?_)
  refine f_gd hf (fun hf => ?_)
  refine f_mem hf (fun q j hq => (mup_ne (by unfold T_X12_reading at hq; omega)).trans (hs q j hq)) (fun σ205 hs hf => ?_)
  refine f_ite hf (fun hf => ?_) (fun hf => ?_)
  · exact fun q j hq => (f_X12_reading_b67 hf q j hq).trans (hs q j hq)
  · exact fun q j hq => (f_X12_reading_b67 hf q j hq).trans (hs q j hq)
theorem f_X12_reading_b25 {F : Nat}  {r : Int} {σ' : mMem}   {x1 x2 t0 : Int} {σ : mMem} (hf : g_X12_reading_b25 F x1 x2 t0 σ = some (r, σ')) : ∀ q j, ¬ T_X12_reading  q j → σ' q j = σ q j := by
  unfold g_X12_reading_b25 at hf
  have hs : ∀ q j, ¬ T_X12_reading  q j → σ q j = σ q j := fun _ _ _ => rfl
  refine f_mob hf (fun r102 σ103 h1 hf => ?_)
  have hs := fun q j hq => (f_X12_counts h1 q j (by unfold T_X12_reading at hq; unfold T_X12_counts; omega)).trans (hs q j hq)
  refine f_ite hf (fun hf => ?_) (fun hf => ?_)
  · refine f_ite hf (fun hf => ?_) (fun hf => ?_)
    · exact fun q j hq => (f_X12_reading_b43 hf q j hq).trans (hs q j hq)
    · exact fun q j hq => (f_X12_reading_b43 hf q j hq).trans (hs q j hq)
  · cases hf
    exact hs
theorem f_X12_reading {F : Nat}  {r : Int} {σ' : mMem} {x1 : Int} {σ : mMem} (hf : g_X12_reading F x1 σ = some (r, σ')) : ∀ q j, ¬ T_X12_reading  q j → σ' q j = σ q j := by
  unfold g_X12_reading at hf
  have hs : ∀ q j, ¬ T_X12_reading  q j → σ q j = σ q j := fun _ _ _ => rfl
  refine f_let hf (fun y1 hf => ?_)
  refine f_gd hf (fun hf => ?_)
  refine f_ite hf (fun hf => ?_) (fun hf => ?_)
  · exact fun q j hq => (f_X12_reading_b25 hf q j hq).trans (hs q j hq)
  · exact fun q j hq => (f_X12_reading_b25 hf q j hq).trans (hs q j hq)
def T_X12_telling  (q j : Nat) : Prop := (q = 86 ∧ (j = 3 ∨ j = 4 ∨ j = 5 ∨ j = 6 ∨ j = 7 ∨ j = 8 ∨ j = 9 ∨ j = 12)) ∨ q = 97
theorem f_X12_telling_b37 {F : Nat}  {r : Int} {σ' : mMem}   {σ : mMem} (hf : g_X12_telling_b37 F  σ = some (r, σ')) : ∀ q j, ¬ T_X12_telling  q j → σ' q j = σ q j := by
  unfold g_X12_telling_b37 at hf
  have hs : ∀ q j, ¬ T_X12_telling  q j → σ q j = σ q j := fun _ _ _ => rfl
  cases hf
  exact hs
theorem f_X12_telling {F : Nat}  {r : Int} {σ' : mMem} {x1 x2 : Int} {σ : mMem} (hf : g_X12_telling F x1 x2 σ = some (r, σ')) : ∀ q j, ¬ T_X12_telling  q j → σ' q j = σ q j := by
  unfold g_X12_telling at hf
  have hs : ∀ q j, ¬ T_X12_telling  q j → σ q j = σ q j := fun _ _ _ => rfl
  refine f_mob hf (fun r1 σ2 h1 hf => ?_)
  have hs := fun q j hq => (f_X12_counts h1 q j (by unfold T_X12_telling at hq; unfold T_X12_counts; omega)).trans (hs q j hq)
  refine f_ite hf (fun hf => ?_) (fun hf => ?_)
  · refine f_mob hf (fun r3 σ4 h1 hf => ?_)
    have hs := fun q j hq => (f_X12_number h1 q j (by unfold T_X12_telling at hq; unfold T_X12_number; omega)).trans (hs q j hq)
    refine f_ite hf (fun hf => ?_) (fun hf => ?_)
    · exact fun q j hq => (f_X12_telling_b37 hf q j hq).trans (hs q j hq)
    · refine f_gd hf (fun hf => ?_)
      refine f_mem hf (fun q j hq => (mup_ne (by unfold T_X12_telling at hq; omega)).trans (hs q j hq)) (fun σ5 hs hf => ?_)
      exact fun q j hq => (f_X12_telling_b37 hf q j hq).trans (hs q j hq)
  · cases hf
    exact hs
def T_X12_statement  (q j : Nat) : Prop := (q = 86 ∧ (j = 3 ∨ j = 4 ∨ j = 5 ∨ j = 6 ∨ j = 7 ∨ j = 8 ∨ j = 9 ∨ j = 12 ∨ j = 29 ∨ j = 31 ∨ j = 37 ∨ j = 38 ∨ j = 40 ∨ j = 41)) ∨ q = 90 ∨ q = 91 ∨ q = 92 ∨ q = 93 ∨ q = 94 ∨ q = 95 ∨ q = 96 ∨ q = 97 ∨ q = 98 ∨ q = 99 ∨ q = 100 ∨ q = 101 ∨ q = 102 ∨ q = 103 ∨ q = 104 ∨ q = 105 ∨ q = 106 ∨ q = 107 ∨ q = 108
theorem f_X12_statement_b186 {F : Nat}  {r : Int} {σ' : mMem}   {σ : mMem} (hf : g_X12_statement_b186 F  σ = some (r, σ')) : ∀ q j, ¬ T_X12_statement  q j → σ' q j = σ q j := by
  unfold g_X12_statement_b186 at hf
  have hs : ∀ q j, ¬ T_X12_statement  q j → σ q j = σ q j := fun _ _ _ => rfl
  cases hf
  exact hs
theorem f_X12_statement {F : Nat}  {r : Int} {σ' : mMem} {σ : mMem} (hf : g_X12_statement F σ = some (r, σ')) : ∀ q j, ¬ T_X12_statement  q j → σ' q j = σ q j := by
  unfold g_X12_statement at hf
  have hs : ∀ q j, ¬ T_X12_statement  q j → σ q j = σ q j := fun _ _ _ => rfl
  refine f_mob hf (fun r1 σ2 h1 hf => ?_)
  have hs := fun q j hq => (f_X12_lex h1 q j (by unfold T_X12_statement at hq; unfold T_X12_lex; omega)).trans (hs q j hq)
  refine f_ite hf (fun hf => ?_) (fun hf => ?_)
  · refine f_mob hf (fun r3 σ4 h1 hf => ?_)
    have hs := fun q j hq => (f_X12_isWord h1 q j (by unfold T_X12_isWord; exact id)).trans (hs q j hq)
    refine f_ite hf (fun hf => ?_) (fun hf => ?_)
    · refine f_mob hf (fun r5 σ6 h1 hf => ?_)
      have hs := fun q j hq => (f_X12_isWord h1 q j (by unfold T_X12_isWord; exact id)).trans (hs q j hq)
      refine f_ite hf (fun hf => ?_) (fun hf => ?_)
      · refine f_mob hf (fun r7 σ8 h1 hf => ?_)
        have hs := fun q j hq => (f_X12_isWord h1 q j (by unfold T_X12_isWord; exact id)).trans (hs q j hq)
        refine f_ite hf (fun hf => ?_) (fun hf => ?_)
        · refine f_mob hf (fun r9 σ10 h1 hf => ?_)
          have hs := fun q j hq => (f_X12_isWord h1 q j (by unfold T_X12_isWord; exact id)).trans (hs q j hq)
          refine f_ite hf (fun hf => ?_) (fun hf => ?_)
          · refine f_mob hf (fun r11 σ12 h1 hf => ?_)
            have hs := fun q j hq => (f_X12_isWord h1 q j (by unfold T_X12_isWord; exact id)).trans (hs q j hq)
            refine f_ite hf (fun hf => ?_) (fun hf => ?_)
            · refine f_mob hf (fun r13 σ14 h1 hf => ?_)
              have hs := fun q j hq => (f_X12_isWord h1 q j (by unfold T_X12_isWord; exact id)).trans (hs q j hq)
              refine f_ite hf (fun hf => ?_) (fun hf => ?_)
              · refine f_mob hf (fun r15 σ16 h1 hf => ?_)
                have hs := fun q j hq => (f_X12_isWord h1 q j (by unfold T_X12_isWord; exact id)).trans (hs q j hq)
                refine f_ite hf (fun hf => ?_) (fun hf => ?_)
                · refine f_mob hf (fun r17 σ18 h1 hf => ?_)
                  have hs := fun q j hq => (f_X12_isWord h1 q j (by unfold T_X12_isWord; exact id)).trans (hs q j hq)
                  refine f_ite hf (fun hf => ?_) (fun hf => ?_)
                  · refine f_mob hf (fun r19 σ20 h1 hf => ?_)
                    have hs := fun q j hq => (f_X12_isWord h1 q j (by unfold T_X12_isWord; exact id)).trans (hs q j hq)
                    refine f_ite hf (fun hf => ?_) (fun hf => ?_)
                    · refine f_mob hf (fun r21 σ22 h1 hf => ?_)
                      have hs := fun q j hq => (f_X12_blame h1 q j (by unfold T_X12_statement at hq; unfold T_X12_blame; omega)).trans (hs q j hq)
                      exact fun q j hq => (f_X12_statement_b186 hf q j hq).trans (hs q j hq)
                    · refine f_mob hf (fun r23 σ24 h1 hf => ?_)
                      have hs := fun q j hq => (f_X12_telling h1 q j (by unfold T_X12_statement at hq; unfold T_X12_telling; omega)).trans (hs q j hq)
                      exact fun q j hq => (f_X12_statement_b186 hf q j hq).trans (hs q j hq)
                  · refine f_mob hf (fun r25 σ26 h1 hf => ?_)
                    have hs := fun q j hq => (f_X12_telling h1 q j (by unfold T_X12_statement at hq; unfold T_X12_telling; omega)).trans (hs q j hq)
                    exact fun q j hq => (f_X12_statement_b186 hf q j hq).trans (hs q j hq)
                · refine f_mob hf (fun r27 σ28 h1 hf => ?_)
                  have hs := fun q j hq => (f_X12_telling h1 q j (by unfold T_X12_statement at hq; unfold T_X12_telling; omega)).trans (hs q j hq)
                  exact fun q j hq => (f_X12_statement_b186 hf q j hq).trans (hs q j hq)
              · refine f_mob hf (fun r29 σ30 h1 hf => ?_)
                have hs := fun q j hq => (f_X12_reading h1 q j (by unfold T_X12_statement at hq; unfold T_X12_reading; omega)).trans (hs q j hq)
                exact fun q j hq => (f_X12_statement_b186 hf q j hq).trans (hs q j hq)
            · refine f_mob hf (fun r31 σ32 h1 hf => ?_)
              have hs := fun q j hq => (f_X12_reading h1 q j (by unfold T_X12_statement at hq; unfold T_X12_reading; omega)).trans (hs q j hq)
              exact fun q j hq => (f_X12_statement_b186 hf q j hq).trans (hs q j hq)
          · refine f_mob hf (fun r33 σ34 h1 hf => ?_)
            have hs := fun q j hq => (f_X12_biasing h1 q j (by unfold T_X12_statement at hq; unfold T_X12_biasing; omega)).trans (hs q j hq)
            exact fun q j hq => (f_X12_statement_b186 hf q j hq).trans (hs q j hq)
        · refine f_mob hf (fun r35 σ36 h1 hf => ?_)
          have hs := fun q j hq => (f_X12_eyeing h1 q j (by unfold T_X12_statement at hq; unfold T_X12_eyeing; omega)).trans (hs q j hq)
          exact fun q j hq => (f_X12_statement_b186 hf q j hq).trans (hs q j hq)
      · refine f_mob hf (fun r37 σ38 h1 hf => ?_)
        have hs := fun q j hq => (f_X12_boxing h1 q j (by unfold T_X12_statement at hq; unfold T_X12_boxing; omega)).trans (hs q j hq)
        exact fun q j hq => (f_X12_statement_b186 hf q j hq).trans (hs q j hq)
    · refine f_mob hf (fun r39 σ40 h1 hf => ?_)
      have hs := fun q j hq => (f_X12_greying h1 q j (by unfold T_X12_statement at hq; unfold T_X12_greying; omega)).trans (hs q j hq)
      exact fun q j hq => (f_X12_statement_b186 hf q j hq).trans (hs q j hq)
  · cases hf
    exact hs
def T_X12_finishes  (q j : Nat) : Prop := (q = 86 ∧ (j = 3 ∨ j = 4 ∨ j = 5 ∨ j = 6 ∨ j = 7 ∨ j = 8 ∨ j = 9 ∨ j = 12))
theorem f_X12_finishes_b83 {F : Nat}  {r : Int} {σ' : mMem}   {σ : mMem} (hf : g_X12_finishes_b83 F  σ = some (r, σ')) : ∀ q j, ¬ T_X12_finishes  q j → σ' q j = σ q j := by
  unfold g_X12_finishes_b83 at hf
  have hs : ∀ q j, ¬ T_X12_finishes  q j → σ q j = σ q j := fun _ _ _ => rfl
  refine f_mob hf (fun r408 σ409 h1 hf => ?_)
  have hs := fun q j hq => (f_X12_must h1 q j (by unfold T_X12_finishes at hq; unfold T_X12_must; omega)).trans (hs q j hq)
  cases hf
  exact hs
theorem f_X12_finishes_b53 {F : Nat}  {r : Int} {σ' : mMem}   {x1 x2 : Int} {σ : mMem} (hf : g_X12_finishes_b53 F x1 x2 σ = some (r, σ')) : ∀ q j, ¬ T_X12_finishes  q j → σ' q j = σ q j := by
  unfold g_X12_finishes_b53 at hf
  have hs : ∀ q j, ¬ T_X12_finishes  q j → σ q j = σ q j := fun _ _ _ => rfl
  refine f_mob hf (fun r204 σ205 h1 hf => ?_)
  have hs := fun q j hq => (f_X12_isSign h1 q j (by unfold T_X12_isSign; exact id)).trans (hs q j hq)
  refine f_ite hf (fun hf => ?_) (fun hf => ?_)
  · exact fun q j hq => (f_X12_finishes_b83 hf q j hq).trans (hs q j hq)
  · refine f_ite hf (fun hf => ?_) (fun hf => ?_)
    · exact fun q j hq => (f_X12_finishes_b83 hf q j hq).trans (hs q j hq)
    · refine f_ite hf (fun hf => ?_) (fun hf => ?_)
      · exact fun q j hq => (f_X12_finishes_b83 hf q j hq).trans (hs q j hq)
      · refine f_mob hf (fun r206 σ207 h1 hf => ?_)
        have hs := fun q j hq => (f_X12_blame h1 q j (by unfold T_X12_finishes at hq; unfold T_X12_blame; omega)).trans (hs q j hq)
        exact fun q j hq => (f_X12_finishes_b83 hf q j hq).trans (hs q j hq)
theorem f_X12_finishes_b47 {F : Nat}  {r : Int} {σ' : mMem} {k17 : Int → Int → mMem → mRs} (hk17 : ∀ (x1 x2 : Int) (σ : mMem), k17 x1 x2 σ = some (r, σ') → ∀ q j, ¬ T_X12_finishes  q j → σ' q j = σ q j) {x1 x2 : Int} {σ : mMem} (hf : g_X12_finishes_b47 F k17 x1 x2 σ = some (r, σ')) : ∀ q j, ¬ T_X12_finishes  q j → σ' q j = σ q j := by
  unfold g_X12_finishes_b47 at hf
  have hs : ∀ q j, ¬ T_X12_finishes  q j → σ q j = σ q j := fun _ _ _ => rfl
  exact fun q j hq => (hk17 _ _ _ hf q j hq).trans (hs q j hq)
theorem f_X12_finishes_h17 {F : Nat}  {r : Int} {σ' : mMem}   (n : Nat) : ∀ {x1 x2 : Int} {σ : mMem} (_ : g_X12_finishes_h17 F n x1 x2 σ = some (r, σ')), ∀ q j, ¬ T_X12_finishes  q j → σ' q j = σ q j := by
  induction n with
  | zero =>
    intro x1 x2 σ hf
    unfold g_X12_finishes_h17 at hf
    cases hf
  | succ n ih =>
    have hk17 : ∀ (x1 x2 : Int) (σ : mMem), g_X12_finishes_h17 F n x1 x2 σ = some (r, σ') → ∀ q j, ¬ T_X12_finishes  q j → σ' q j = σ q j := fun x1 x2 σ hf => ih hf
    intro x1 x2 σ hf
    unfold g_X12_finishes_h17 at hf
    have hs : ∀ q j, ¬ T_X12_finishes  q j → σ q j = σ q j := fun _ _ _ => rfl
    refine f_ite hf (fun hf => ?_) (fun hf => ?_)
    · exact fun q j hq => (f_X12_finishes_b53 hf q j hq).trans (hs q j hq)
    · refine f_gd hf (fun hf => ?_)
      refine f_ite hf (fun hf => ?_) (fun hf => ?_)
      · exact fun q j hq => (f_X12_finishes_b47 hk17 hf q j hq).trans (hs q j hq)
      · refine f_gd hf (fun hf => ?_)
        refine f_ite hf (fun hf => ?_) (fun hf => ?_)
        · exact fun q j hq => (f_X12_finishes_b53 hf q j hq).trans (hs q j hq)
        · exact fun q j hq => (f_X12_finishes_b47 hk17 hf q j hq).trans (hs q j hq)
theorem f_X12_finishes {F : Nat}  {r : Int} {σ' : mMem} {x1 : Int} {σ : mMem} (hf : g_X12_finishes F x1 σ = some (r, σ')) : ∀ q j, ¬ T_X12_finishes  q j → σ' q j = σ q j := by
  unfold g_X12_finishes at hf
  have hs : ∀ q j, ¬ T_X12_finishes  q j → σ q j = σ q j := fun _ _ _ => rfl
  refine f_mob hf (fun r1 σ2 h1 hf => ?_)
  have hs := fun q j hq => (f_X12_lex h1 q j (by unfold T_X12_finishes at hq; unfold T_X12_lex; omega)).trans (hs q j hq)
  refine f_ite hf (fun hf => ?_) (fun hf => ?_)
  · refine f_let hf (fun y3 hf => ?_)
    exact fun q j hq => (f_X12_finishes_h17 _ hf q j hq).trans (hs q j hq)
  · cases hf
    exact hs
def T_X12_begin  (q j : Nat) : Prop := (q = 86 ∧ (j = 53 ∨ j = 66)) ∨ q = 110 ∨ q = 111 ∨ q = 112 ∨ q = 113 ∨ q = 114 ∨ q = 115 ∨ q = 116 ∨ q = 117
theorem f_X12_begin_h20 {F : Nat}  {r : Int} {σ' : mMem}   (n : Nat) : ∀ {x1 : Int} {σ : mMem} (_ : g_X12_begin_h20 F n x1 σ = some (r, σ')), ∀ q j, ¬ T_X12_begin  q j → σ' q j = σ q j := by
  induction n with
  | zero =>
    intro x1 σ hf
    unfold g_X12_begin_h20 at hf
    cases hf
  | succ n ih =>
    have hk20 : ∀ (x1 : Int) (σ : mMem), g_X12_begin_h20 F n x1 σ = some (r, σ') → ∀ q j, ¬ T_X12_begin  q j → σ' q j = σ q j := fun x1 σ hf => ih hf
    intro x1 σ hf
    unfold g_X12_begin_h20 at hf
    have hs : ∀ q j, ¬ T_X12_begin  q j → σ q j = σ q j := fun _ _ _ => rfl
    refine f_ite hf (fun hf => ?_) (fun hf => ?_)
    · refine f_gd hf (fun hf => ?_)
      refine f_mem hf (fun q j hq => (mup_ne (by unfold T_X12_begin at hq; omega)).trans (hs q j hq)) (fun σ105 hs hf => ?_)
      refine f_mem hf (fun q j hq => (mup_ne (by unfold T_X12_begin at hq; omega)).trans (hs q j hq)) (fun σ106 hs hf => ?_)
      refine f_mem hf (fun q j hq => (mup_ne (by unfold T_X12_begin at hq; omega)).trans (hs q j hq)) (fun σ107 hs hf => ?_)
      cases hf
      exact hs
    · refine f_gd hf (fun hf => ?_)
      refine f_gd hf (fun hf => ?_)
      refine f_mem hf (fun q j hq => (mup_ne (by unfold T_X12_begin at hq; omega)).trans (hs q j hq)) (fun σ108 hs hf => ?_)
      refine f_gd hf (fun hf => ?_)
      refine f_gd hf (fun hf => ?_)
      refine f_mem hf (fun q j hq => (mup_ne (by unfold T_X12_begin at hq; omega)).trans (hs q j hq)) (fun σ109 hs hf => ?_)
      refine f_mob hf (fun r110 σ111 h1 hf => ?_)
      have hs := fun q j hq => (f_X12_toldOf h1 q j (by unfold T_X12_toldOf; exact id)).trans (hs q j hq)
      refine f_gd hf (fun hf => ?_)
      refine f_mem hf (fun q j hq => (mup_ne (by unfold T_X12_begin at hq; omega)).trans (hs q j hq)) (fun σ112 hs hf => ?_)
      refine f_gd hf (fun hf => ?_)
      refine f_mem hf (fun q j hq => (mup_ne (by unfold T_X12_begin at hq; omega)).trans (hs q j hq)) (fun σ113 hs hf => ?_)
      refine f_gd hf (fun hf => ?_)
      refine f_mem hf (fun q j hq => (mup_ne (by unfold T_X12_begin at hq; omega)).trans (hs q j hq)) (fun σ114 hs hf => ?_)
      exact fun q j hq => (hk20 _ _ hf q j hq).trans (hs q j hq)
theorem f_X12_begin {F : Nat}  {r : Int} {σ' : mMem} {σ : mMem} (hf : g_X12_begin F σ = some (r, σ')) : ∀ q j, ¬ T_X12_begin  q j → σ' q j = σ q j := by
  unfold g_X12_begin at hf
  have hs : ∀ q j, ¬ T_X12_begin  q j → σ q j = σ q j := fun _ _ _ => rfl
  refine f_gd hf (fun hf => ?_)
  refine f_mem hf (fun q j hq => (mup_ne (by unfold T_X12_begin at hq; omega)).trans (hs q j hq)) (fun σ1 hs hf => ?_)
  refine f_mob hf (fun r2 σ3 h1 hf => ?_)
  have hs := fun q j hq => (f_X12_toldOf h1 q j (by unfold T_X12_toldOf; exact id)).trans (hs q j hq)
  refine f_gd hf (fun hf => ?_)
  refine f_mem hf (fun q j hq => (mup_ne (by unfold T_X12_begin at hq; omega)).trans (hs q j hq)) (fun σ4 hs hf => ?_)
  exact fun q j hq => (f_X12_begin_h20 _ hf q j hq).trans (hs q j hq)
