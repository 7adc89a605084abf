def T_X12_kitchen  (q j : Nat) : Prop := (q = 86 ∧ (j = 1 ∨ j = 2 ∨ j = 3 ∨ j = 4 ∨ j = 5 ∨ j = 6 ∨ j = 7 ∨ j = 8 ∨ j = 9 ∨ j = 10 ∨ j = 11 ∨ j = 12 ∨ j = 13 ∨ j = 29 ∨ j = 30 ∨ j = 31 ∨ j = 37 ∨ j = 38 ∨ j = 40 ∨ j = 41 ∨ j = 53 ∨ j = 66)) ∨ q = 88 ∨ q = 89 ∨ q = 90 ∨ q = 91 ∨ q = 92 ∨ q = 93 ∨ q = 94 ∨ q = 95 ∨ q = 96 ∨ q = 97 ∨ q = 98 ∨ q = 99 ∨ q = 100 ∨ q = 101 ∨ q = 102 ∨ q = 103 ∨ q = 104 ∨ q = 105 ∨ q = 106 ∨ q = 107 ∨ q = 108 ∨ q = 109 ∨ q = 110 ∨ q = 111 ∨ q = 112 ∨ q = 113 ∨ q = 114 ∨ q = 115 ∨ q = 116 ∨ q = 117
theorem f_X12_kitchen_b131 {F : Nat}  {r : Int} {σ' : mMem}   {x1 : Int} {σ : mMem} (hf : g_X12_kitchen_b131 F x1 σ = some (r, σ')) : ∀ q j, ¬ T_X12_kitchen  q j → σ' q j = σ q j := by
  unfold g_X12_kitchen_b131 at hf
  have hs : ∀ q j, ¬ T_X12_kitchen  q j → σ q j = σ q j := fun _ _ _ => rfl
  refine f_mem hf (fun q j hq => (mup_ne (by unfold T_X12_kitchen at hq; omega)).trans (hs q j hq)) (fun σ223 hs hf => ?_)
  refine f_mem hf (fun q j hq => (mup_ne (by unfold T_X12_kitchen at hq; omega)).trans (hs q j hq)) (fun σ224 hs hf => ?_)
  refine f_ite hf (fun hf => ?_) (fun hf => ?_)
  · refine f_mem hf (fun q j hq => (mup_ne (by unfold T_X12_kitchen at hq; omega)).trans (hs q j hq)) (fun σ225 hs hf => ?_)
    refine f_mob hf (fun r226 σ227 h1 hf => ?_)
    have hs := fun q j hq => (f_X12_begin h1 q j (by unfold T_X12_kitchen at hq; unfold T_X12_begin; omega)).trans (hs q j hq)
    cases hf
    exact hs
  · refine f_mob hf (fun r228 σ229 h1 hf => ?_)
    have hs := fun q j hq => (f_X12_refuses h1 q j (by unfold T_X12_kitchen at hq; unfold T_X12_refuses; omega)).trans (hs q j hq)
    cases hf
    exact hs
theorem f_X12_kitchen_h102 {F : Nat}  {r : Int} {σ' : mMem}   (n : Nat) : ∀ {x1 : Int} {σ : mMem} (_ : g_X12_kitchen_h102 F n x1 σ = some (r, σ')), ∀ q j, ¬ T_X12_kitchen  q j → σ' q j = σ q j := by
  induction n with
  | zero =>
    intro x1 σ hf
    unfold g_X12_kitchen_h102 at hf
    cases hf
  | succ n ih =>
    have hk102 : ∀ (x1 : Int) (σ : mMem), g_X12_kitchen_h102 F n x1 σ = some (r, σ') → ∀ q j, ¬ T_X12_kitchen  q j → σ' q j = σ q j := fun x1 σ hf => ih hf
    intro x1 σ hf
    unfold g_X12_kitchen_h102 at hf
    have hs : ∀ q j, ¬ T_X12_kitchen  q j → σ q j = σ q j := fun _ _ _ => rfl
    refine f_ite hf (fun hf => ?_) (fun hf => ?_)
    · exact fun q j hq => (f_X12_kitchen_b131 hf q j hq).trans (hs q j hq)
    · refine f_ite hf (fun hf => ?_) (fun hf => ?_)
      · exact fun q j hq => (f_X12_kitchen_b131 hf q j hq).trans (hs q j hq)
      · refine f_mob hf (fun r119 σ120 h1 hf => ?_)
        have hs := fun q j hq => (f_X12_statement h1 q j (by unfold T_X12_kitchen at hq; unfold T_X12_statement; omega)).trans (hs q j hq)
        refine f_mob hf (fun r121 σ122 h1 hf => ?_)
        have hs := fun q j hq => (f_X12_finishes h1 q j (by unfold T_X12_kitchen at hq; unfold T_X12_finishes; omega)).trans (hs q j hq)
        exact fun q j hq => (hk102 _ _ hf q j hq).trans (hs q j hq)
theorem f_X12_kitchen {F : Nat}  {r : Int} {σ' : mMem} {σ : mMem} (hf : g_X12_kitchen F σ = some (r, σ')) : ∀ q j, ¬ T_X12_kitchen  q j → σ' q j = σ q j := by
  unfold g_X12_kitchen at hf
  have hs : ∀ q j, ¬ T_X12_kitchen  q j → σ q j = σ q j := fun _ _ _ => rfl
  refine f_mem hf (fun q j hq => (mup_ne (by unfold T_X12_kitchen at hq; omega)).trans (hs q j hq)) (fun σ1 hs hf => ?_)
  refine f_mem hf (fun q j hq => (mup_ne (by unfold T_X12_kitchen at hq; omega)).trans (hs q j hq)) (fun σ2 hs hf => ?_)
  refine f_mem hf (fun q j hq => (mup_ne (by unfold T_X12_kitchen at hq; omega)).trans (hs q j hq)) (fun σ3 hs hf => ?_)
  refine f_mem hf (fun q j hq => (mup_ne (by unfold T_X12_kitchen at hq; omega)).trans (hs q j hq)) (fun σ4 hs hf => ?_)
  refine f_mem hf (fun q j hq => (mup_ne (by unfold T_X12_kitchen at hq; omega)).trans (hs q j hq)) (fun σ5 hs hf => ?_)
  refine f_mem hf (fun q j hq => (mup_ne (by unfold T_X12_kitchen at hq; omega)).trans (hs q j hq)) (fun σ6 hs hf => ?_)
  refine f_gd hf (fun hf => ?_)
  refine f_mem hf (fun q j hq => (mup_ne (by unfold T_X12_kitchen at hq; omega)).trans (hs q j hq)) (fun σ7 hs hf => ?_)
  refine f_mob hf (fun r8 σ9 h1 hf => ?_)
  have hs := fun q j hq => (f_X12_isDefault h1 q j (by unfold T_X12_kitchen at hq; unfold T_X12_isDefault; omega)).trans (hs q j hq)
  refine f_gd hf (fun hf => ?_)
  refine f_mem hf (fun q j hq => (mup_ne (by unfold T_X12_kitchen at hq; omega)).trans (hs q j hq)) (fun σ10 hs hf => ?_)
  refine f_gd hf (fun hf => ?_)
  refine f_mem hf (fun q j hq => (mup_ne (by unfold T_X12_kitchen at hq; omega)).trans (hs q j hq)) (fun σ11 hs hf => ?_)
  refine f_mem hf (fun q j hq => (mup_ne (by unfold T_X12_kitchen at hq; omega)).trans (hs q j hq)) (fun σ12 hs hf => ?_)
  refine f_mob hf (fun r13 σ14 h1 hf => ?_)
  have hs := fun q j hq => (f_X12_ahead h1 q j (by unfold T_X12_kitchen at hq; unfold T_X12_ahead; omega)).trans (hs q j hq)
  refine f_mob hf (fun r15 σ16 h1 hf => ?_)
  have hs := fun q j hq => (f_X12_begins h1 q j (by unfold T_X12_kitchen at hq; unfold T_X12_begins; omega)).trans (hs q j hq)
  refine f_mob hf (fun r17 σ18 h1 hf => ?_)
  have hs := fun q j hq => (f_X12_finishes h1 q j (by unfold T_X12_kitchen at hq; unfold T_X12_finishes; omega)).trans (hs q j hq)
  exact fun q j hq => (f_X12_kitchen_h102 _ hf q j hq).trans (hs q j hq)
def T_X12_fault  (q j : Nat) : Prop := False
theorem f_X12_fault_b24 {F : Nat}  {r : Int} {σ' : mMem}   {t0 : Int} {σ : mMem} (hf : g_X12_fault_b24 F t0 σ = some (r, σ')) : ∀ q j, ¬ T_X12_fault  q j → σ' q j = σ q j := by
  unfold g_X12_fault_b24 at hf
  have hs : ∀ q j, ¬ T_X12_fault  q j → σ q j = σ q j := fun _ _ _ => rfl
  cases hf
  exact hs
theorem f_X12_fault {F : Nat}  {r : Int} {σ' : mMem} {x1 : Int} {σ : mMem} (hf : g_X12_fault F x1 σ = some (r, σ')) : ∀ q j, ¬ T_X12_fault  q j → σ' q j = σ q j := by
  unfold g_X12_fault at hf
  have hs : ∀ q j, ¬ T_X12_fault  q j → σ q j = σ q j := fun _ _ _ => rfl
  refine f_ite hf (fun hf => ?_) (fun hf => ?_)
  · refine f_ite hf (fun hf => ?_) (fun hf => ?_)
    · exact fun q j hq => (f_X12_fault_b24 hf q j hq).trans (hs q j hq)
    · exact fun q j hq => (f_X12_fault_b24 hf q j hq).trans (hs q j hq)
  · exact fun q j hq => (f_X12_fault_b24 hf q j hq).trans (hs q j hq)
def T_X12_status  (q j : Nat) : Prop := False
theorem f_X12_status_b19 {F : Nat}  {r : Int} {σ' : mMem}   {t0 : Int} {σ : mMem} (hf : g_X12_status_b19 F t0 σ = some (r, σ')) : ∀ q j, ¬ T_X12_status  q j → σ' q j = σ q j := by
  unfold g_X12_status_b19 at hf
  have hs : ∀ q j, ¬ T_X12_status  q j → σ q j = σ q j := fun _ _ _ => rfl
  cases hf
  exact hs
theorem f_X12_status {F : Nat}  {r : Int} {σ' : mMem} {x1 : Int} {σ : mMem} (hf : g_X12_status F x1 σ = some (r, σ')) : ∀ q j, ¬ T_X12_status  q j → σ' q j = σ q j := by
  unfold g_X12_status at hf
  have hs : ∀ q j, ¬ T_X12_status  q j → σ q j = σ q j := fun _ _ _ => rfl
  refine f_mob hf (fun r1 σ2 h1 hf => ?_)
  have hs := fun q j hq => (f_X12_is h1 q j (by unfold T_X12_is; exact id)).trans (hs q j hq)
  refine f_ite hf (fun hf => ?_) (fun hf => ?_)
  · exact fun q j hq => (f_X12_status_b19 hf q j hq).trans (hs q j hq)
  · refine f_gd hf (fun hf => ?_)
    exact fun q j hq => (f_X12_status_b19 hf q j hq).trans (hs q j hq)
def T_X12_copies  (q j : Nat) : Prop := q = 110 ∨ q = 111 ∨ q = 112 ∨ q = 113 ∨ q = 114 ∨ q = 115 ∨ q = 116 ∨ q = 117 ∨ q = 118
theorem f_X12_copies_h162 {F : Nat}  {r : Int} {σ' : mMem}   (n : Nat) : ∀ {x1 x2 x3 : Int} {σ : mMem} (_ : g_X12_copies_h162 F n x1 x2 x3 σ = some (r, σ')), ∀ q j, ¬ T_X12_copies  q j → σ' q j = σ q j := by
  induction n with
  | zero =>
    intro x1 x2 x3 σ hf
    unfold g_X12_copies_h162 at hf
    cases hf
  | succ n ih =>
    have hk162 : ∀ (x1 x2 x3 : Int) (σ : mMem), g_X12_copies_h162 F n x1 x2 x3 σ = some (r, σ') → ∀ q j, ¬ T_X12_copies  q j → σ' q j = σ q j := fun x1 x2 x3 σ hf => ih hf
    intro x1 x2 x3 σ hf
    unfold g_X12_copies_h162 at hf
    have hs : ∀ q j, ¬ T_X12_copies  q j → σ q j = σ q j := fun _ _ _ => rfl
    refine f_gd hf (fun hf => ?_)
    refine f_ite hf (fun hf => ?_) (fun hf => ?_)
    · cases hf
      exact hs
    · refine f_gd hf (fun hf => ?_)
      refine f_gd hf (fun hf => ?_)
      refine f_mem hf (fun q j hq => (mup_ne (by unfold T_X12_copies at hq; omega)).trans (hs q j hq)) (fun σ209 hs hf => ?_)
      exact fun q j hq => (hk162 _ _ _ _ hf q j hq).trans (hs q j hq)
theorem f_X12_copies_h26 {F : Nat}  {r : Int} {σ' : mMem}   (n : Nat) : ∀ {x1 x2 x3 : Int} {σ : mMem} (_ : g_X12_copies_h26 F n x1 x2 x3 σ = some (r, σ')), ∀ q j, ¬ T_X12_copies  q j → σ' q j = σ q j := by
  induction n with
  | zero =>
    intro x1 x2 x3 σ hf
    unfold g_X12_copies_h26 at hf
    cases hf
  | succ n ih =>
    have hk26 : ∀ (x1 x2 x3 : Int) (σ : mMem), g_X12_copies_h26 F n x1 x2 x3 σ = some (r, σ') → ∀ q j, ¬ T_X12_copies  q j → σ' q j = σ q j := fun x1 x2 x3 σ hf => ih hf
    intro x1 x2 x3 σ hf
    unfold g_X12_copies_h26 at hf
    have hs : ∀ q j, ¬ T_X12_copies  q j → σ q j = σ q j := fun _ _ _ => rfl
    refine f_ite hf (fun hf => ?_) (fun hf => ?_)
    · refine f_gd hf (fun hf => ?_)
      refine f_gd hf (fun hf => ?_)
      refine f_mem hf (fun q j hq => (mup_ne (by unfold T_X12_copies at hq; omega)).trans (hs q j hq)) (fun σ103 hs hf => ?_)
      exact fun q j hq => (f_X12_copies_h162 _ hf q j hq).trans (hs q j hq)
    · refine f_gd hf (fun hf => ?_)
      refine f_gd hf (fun hf => ?_)
      refine f_mem hf (fun q j hq => (mup_ne (by unfold T_X12_copies at hq; omega)).trans (hs q j hq)) (fun σ104 hs hf => ?_)
      refine f_gd hf (fun hf => ?_)
      refine f_gd hf (fun hf => ?_)
      refine f_mem hf (fun q j hq => (mup_ne (by unfold T_X12_copies at hq; omega)).trans (hs q j hq)) (fun σ105 hs hf => ?_)
      refine f_gd hf (fun hf => ?_)
      refine f_gd hf (fun hf => ?_)
      refine f_mem hf (fun q j hq => (mup_ne (by unfold T_X12_copies at hq; omega)).trans (hs q j hq)) (fun σ106 hs hf => ?_)
      refine f_gd hf (fun hf => ?_)
      refine f_gd hf (fun hf => ?_)
      refine f_mem hf (fun q j hq => (mup_ne (by unfold T_X12_copies at hq; omega)).trans (hs q j hq)) (fun σ107 hs hf => ?_)
      refine f_gd hf (fun hf => ?_)
      refine f_gd hf (fun hf => ?_)
      refine f_mem hf (fun q j hq => (mup_ne (by unfold T_X12_copies at hq; omega)).trans (hs q j hq)) (fun σ108 hs hf => ?_)
      exact fun q j hq => (hk26 _ _ _ _ hf q j hq).trans (hs q j hq)
theorem f_X12_copies {F : Nat}  {r : Int} {σ' : mMem} {x1 x2 : Int} {σ : mMem} (hf : g_X12_copies F x1 x2 σ = some (r, σ')) : ∀ q j, ¬ T_X12_copies  q j → σ' q j = σ q j := by
  unfold g_X12_copies at hf
  have hs : ∀ q j, ¬ T_X12_copies  q j → σ q j = σ q j := fun _ _ _ => rfl
  refine f_gd hf (fun hf => ?_)
  refine f_gd hf (fun hf => ?_)
  refine f_mem hf (fun q j hq => (mup_ne (by unfold T_X12_copies at hq; omega)).trans (hs q j hq)) (fun σ1 hs hf => ?_)
  refine f_gd hf (fun hf => ?_)
  refine f_gd hf (fun hf => ?_)
  refine f_mem hf (fun q j hq => (mup_ne (by unfold T_X12_copies at hq; omega)).trans (hs q j hq)) (fun σ2 hs hf => ?_)
  exact fun q j hq => (f_X12_copies_h26 _ hf q j hq).trans (hs q j hq)
def T_X12_slot  (q j : Nat) : Prop := False
theorem f_X12_slot {F : Nat}  {r : Int} {σ' : mMem} {x1 : Int} {σ : mMem} (hf : g_X12_slot F x1 σ = some (r, σ')) : ∀ q j, ¬ T_X12_slot  q j → σ' q j = σ q j := by
  unfold g_X12_slot at hf
  have hs : ∀ q j, ¬ T_X12_slot  q j → σ q j = σ q j := fun _ _ _ => rfl
  refine f_dv hf (fun hf => ?_)
  cases hf
  exact hs
def T_X12_keeps  (q j : Nat) : Prop := (q = 86 ∧ (j = 52 ∨ j = 53)) ∨ q = 110 ∨ q = 111 ∨ q = 112 ∨ q = 113 ∨ q = 114 ∨ q = 115 ∨ q = 116 ∨ q = 117 ∨ q = 118
theorem f_X12_keeps_b32 {F : Nat}  {r : Int} {σ' : mMem}   {σ : mMem} (hf : g_X12_keeps_b32 F  σ = some (r, σ')) : ∀ q j, ¬ T_X12_keeps  q j → σ' q j = σ q j := by
  unfold g_X12_keeps_b32 at hf
  have hs : ∀ q j, ¬ T_X12_keeps  q j → σ q j = σ q j := fun _ _ _ => rfl
  refine f_mob hf (fun r103 σ104 h1 hf => ?_)
  have hs := fun q j hq => (f_X12_slot h1 q j (by unfold T_X12_slot; exact id)).trans (hs q j hq)
  refine f_mob hf (fun r105 σ106 h1 hf => ?_)
  have hs := fun q j hq => (f_X12_copies h1 q j (by unfold T_X12_keeps at hq; unfold T_X12_copies; omega)).trans (hs q j hq)
  refine f_mem hf (fun q j hq => (mup_ne (by unfold T_X12_keeps at hq; omega)).trans (hs q j hq)) (fun σ107 hs hf => ?_)
  cases hf
  exact hs
theorem f_X12_keeps {F : Nat}  {r : Int} {σ' : mMem} {σ : mMem} (hf : g_X12_keeps F σ = some (r, σ')) : ∀ q j, ¬ T_X12_keeps  q j → σ' q j = σ q j := by
  unfold g_X12_keeps at hf
  have hs : ∀ q j, ¬ T_X12_keeps  q j → σ q j = σ q j := fun _ _ _ => rfl
  refine f_ite hf (fun hf => ?_) (fun hf => ?_)
  · exact fun q j hq => (f_X12_keeps_b32 hf q j hq).trans (hs q j hq)
  · refine f_dv hf (fun hf => ?_)
    refine f_mem hf (fun q j hq => (mup_ne (by unfold T_X12_keeps at hq; omega)).trans (hs q j hq)) (fun σ1 hs hf => ?_)
    refine f_mem hf (fun q j hq => (mup_ne (by unfold T_X12_keeps at hq; omega)).trans (hs q j hq)) (fun σ2 hs hf => ?_)
    exact fun q j hq => (f_X12_keeps_b32 hf q j hq).trans (hs q j hq)
def T_X12_undo  (q j : Nat) : Prop := (q = 86 ∧ (j = 53)) ∨ q = 109 ∨ q = 110 ∨ q = 111 ∨ q = 112 ∨ q = 113 ∨ q = 114 ∨ q = 115 ∨ q = 116 ∨ q = 117 ∨ q = 118
theorem f_X12_undo_b20 {F : Nat}  {r : Int} {σ' : mMem}   {t0 : Int} {σ : mMem} (hf : g_X12_undo_b20 F t0 σ = some (r, σ')) : ∀ q j, ¬ T_X12_undo  q j → σ' q j = σ q j := by
  unfold g_X12_undo_b20 at hf
  have hs : ∀ q j, ¬ T_X12_undo  q j → σ q j = σ q j := fun _ _ _ => rfl
  refine f_gd hf (fun hf => ?_)
  cases hf
  exact hs
theorem f_X12_undo {F : Nat}  {r : Int} {σ' : mMem} {σ : mMem} (hf : g_X12_undo F σ = some (r, σ')) : ∀ q j, ¬ T_X12_undo  q j → σ' q j = σ q j := by
  unfold g_X12_undo at hf
  have hs : ∀ q j, ¬ T_X12_undo  q j → σ q j = σ q j := fun _ _ _ => rfl
  refine f_ite hf (fun hf => ?_) (fun hf => ?_)
  · refine f_mem hf (fun q j hq => (mup_ne (by unfold T_X12_undo at hq; omega)).trans (hs q j hq)) (fun σ1 hs hf => ?_)
    refine f_mob hf (fun r2 σ3 h1 hf => ?_)
    have hs := fun q j hq => (f_X12_slot h1 q j (by unfold T_X12_slot; exact id)).trans (hs q j hq)
    refine f_mob hf (fun r4 σ5 h1 hf => ?_)
    have hs := fun q j hq => (f_X12_copies h1 q j (by unfold T_X12_undo at hq; unfold T_X12_copies; omega)).trans (hs q j hq)
    refine f_gd hf (fun hf => ?_)
    cases hf
    exact hs
  · refine f_mob hf (fun r6 σ7 h1 hf => ?_)
    have hs := fun q j hq => (f_X12_refuses h1 q j (by unfold T_X12_undo at hq; unfold T_X12_refuses; omega)).trans (hs q j hq)
    refine f_ite hf (fun hf => ?_) (fun hf => ?_)
    · exact fun q j hq => (f_X12_undo_b20 hf q j hq).trans (hs q j hq)
    · exact fun q j hq => (f_X12_undo_b20 hf q j hq).trans (hs q j hq)
def T_X12_held  (q j : Nat) : Prop := False
theorem f_X12_held_b29 {F : Nat}  {r : Int} {σ' : mMem}   {t0 : Int} {σ : mMem} (hf : g_X12_held_b29 F t0 σ = some (r, σ')) : ∀ q j, ¬ T_X12_held  q j → σ' q j = σ q j := by
  unfold g_X12_held_b29 at hf
  have hs : ∀ q j, ¬ T_X12_held  q j → σ q j = σ q j := fun _ _ _ => rfl
  cases hf
  exact hs
theorem f_X12_held {F : Nat}  {r : Int} {σ' : mMem} {x0 : Int} {σ : mMem} (hf : g_X12_held F x0 σ = some (r, σ')) : ∀ q j, ¬ T_X12_held  q j → σ' q j = σ q j := by
  unfold g_X12_held at hf
  have hs : ∀ q j, ¬ T_X12_held  q j → σ q j = σ q j := fun _ _ _ => rfl
  refine f_ite hf (fun hf => ?_) (fun hf => ?_)
  · refine f_ite hf (fun hf => ?_) (fun hf => ?_)
    · exact fun q j hq => (f_X12_held_b29 hf q j hq).trans (hs q j hq)
    · exact fun q j hq => (f_X12_held_b29 hf q j hq).trans (hs q j hq)
  · exact fun q j hq => (f_X12_held_b29 hf q j hq).trans (hs q j hq)
def T_X12_floor  (q j : Nat) : Prop := False
theorem f_X12_floor_b55 {F : Nat}  {r : Int} {σ' : mMem}   {t0 : Int} {σ : mMem} (hf : g_X12_floor_b55 F t0 σ = some (r, σ')) : ∀ q j, ¬ T_X12_floor  q j → σ' q j = σ q j := by
  unfold g_X12_floor_b55 at hf
  have hs : ∀ q j, ¬ T_X12_floor  q j → σ q j = σ q j := fun _ _ _ => rfl
  cases hf
  exact hs
theorem f_X12_floor_b53 {F : Nat}  {r : Int} {σ' : mMem}   {x4 : Int} {σ : mMem} (hf : g_X12_floor_b53 F x4 σ = some (r, σ')) : ∀ q j, ¬ T_X12_floor  q j → σ' q j = σ q j := by
  unfold g_X12_floor_b53 at hf
  have hs : ∀ q j, ¬ T_X12_floor  q j → σ q j = σ q j := fun _ _ _ => rfl
  exact fun q j hq => (f_X12_floor_b55 hf q j hq).trans (hs q j hq)
theorem f_X12_floor_b43 {F : Nat}  {r : Int} {σ' : mMem}   {x4 t0 t1 : Int} {σ : mMem} (hf : g_X12_floor_b43 F x4 t0 t1 σ = some (r, σ')) : ∀ q j, ¬ T_X12_floor  q j → σ' q j = σ q j := by
  unfold g_X12_floor_b43 at hf
  have hs : ∀ q j, ¬ T_X12_floor  q j → σ q j = σ q j := fun _ _ _ => rfl
  refine f_ite hf (fun hf => ?_) (fun hf => ?_)
  · exact fun q j hq => (f_X12_floor_b53 hf q j hq).trans (hs q j hq)
  · exact fun q j hq => (f_X12_floor_b55 hf q j hq).trans (hs q j hq)
theorem f_X12_floor_b32 {F : Nat}  {r : Int} {σ' : mMem}   {x2 x4 t0 : Int} {σ : mMem} (hf : g_X12_floor_b32 F x2 x4 t0 σ = some (r, σ')) : ∀ q j, ¬ T_X12_floor  q j → σ' q j = σ q j := by
  unfold g_X12_floor_b32 at hf
  have hs : ∀ q j, ¬ T_X12_floor  q j → σ q j = σ q j := fun _ _ _ => rfl
  refine f_ite hf (fun hf => ?_) (fun hf => ?_)
  · exact fun q j hq => (f_X12_floor_b43 hf q j hq).trans (hs q j hq)
  · exact fun q j hq => (f_X12_floor_b43 hf q j hq).trans (hs q j hq)
theorem f_X12_floor {F : Nat}  {r : Int} {σ' : mMem} {x0 x2 : Int} {σ : mMem} (hf : g_X12_floor F x0 x2 σ = some (r, σ')) : ∀ q j, ¬ T_X12_floor  q j → σ' q j = σ q j := by
  unfold g_X12_floor at hf
  have hs : ∀ q j, ¬ T_X12_floor  q j → σ q j = σ q j := fun _ _ _ => rfl
  refine f_ite hf (fun hf => ?_) (fun hf => ?_)
  · refine f_dv hf (fun hf => ?_)
    refine f_let hf (fun y1 hf => ?_)
    refine f_dv hf (fun hf => ?_)
    refine f_ite hf (fun hf => ?_) (fun hf => ?_)
    · exact fun q j hq => (f_X12_floor_b53 hf q j hq).trans (hs q j hq)
    · refine f_ite hf (fun hf => ?_) (fun hf => ?_)
      · exact fun q j hq => (f_X12_floor_b32 hf q j hq).trans (hs q j hq)
      · exact fun q j hq => (f_X12_floor_b32 hf q j hq).trans (hs q j hq)
  · cases hf
    exact hs
def T_X12_two  (q j : Nat) : Prop := False
theorem f_X12_two_b112 {F : Nat}  {r : Int} {σ' : mMem}   {t0 : Int} {σ : mMem} (hf : g_X12_two_b112 F t0 σ = some (r, σ')) : ∀ q j, ¬ T_X12_two  q j → σ' q j = σ q j := by
  unfold g_X12_two_b112 at hf
  have hs : ∀ q j, ¬ T_X12_two  q j → σ q j = σ q j := fun _ _ _ => rfl
  cases hf
  exact hs
theorem f_X12_two_b124 {F : Nat}  {r : Int} {σ' : mMem}   {t0 : Int} {σ : mMem} (hf : g_X12_two_b124 F t0 σ = some (r, σ')) : ∀ q j, ¬ T_X12_two  q j → σ' q j = σ q j := by
  unfold g_X12_two_b124 at hf
  have hs : ∀ q j, ¬ T_X12_two  q j → σ q j = σ q j := fun _ _ _ => rfl
  cases hf
  exact hs
theorem f_X12_two_b136 {F : Nat}  {r : Int} {σ' : mMem}   {t0 : Int} {σ : mMem} (hf : g_X12_two_b136 F t0 σ = some (r, σ')) : ∀ q j, ¬ T_X12_two  q j → σ' q j = σ q j := by
  unfold g_X12_two_b136 at hf
  have hs : ∀ q j, ¬ T_X12_two  q j → σ q j = σ q j := fun _ _ _ => rfl
  cases hf
  exact hs
theorem f_X12_two_b148 {F : Nat}  {r : Int} {σ' : mMem}   {t0 : Int} {σ : mMem} (hf : g_X12_two_b148 F t0 σ = some (r, σ')) : ∀ q j, ¬ T_X12_two  q j → σ' q j = σ q j := by
  unfold g_X12_two_b148 at hf
  have hs : ∀ q j, ¬ T_X12_two  q j → σ q j = σ q j := fun _ _ _ => rfl
  cases hf
  exact hs
theorem f_X12_two_b160 {F : Nat}  {r : Int} {σ' : mMem}   {t0 : Int} {σ : mMem} (hf : g_X12_two_b160 F t0 σ = some (r, σ')) : ∀ q j, ¬ T_X12_two  q j → σ' q j = σ q j := by
  unfold g_X12_two_b160 at hf
  have hs : ∀ q j, ¬ T_X12_two  q j → σ q j = σ q j := fun _ _ _ => rfl
  cases hf
  exact hs
theorem f_X12_two_b172 {F : Nat}  {r : Int} {σ' : mMem}   {t0 : Int} {σ : mMem} (hf : g_X12_two_b172 F t0 σ = some (r, σ')) : ∀ q j, ¬ T_X12_two  q j → σ' q j = σ q j := by
  unfold g_X12_two_b172 at hf
  have hs : ∀ q j, ¬ T_X12_two  q j → σ q j = σ q j := fun _ _ _ => rfl
  cases hf
  exact hs
theorem f_X12_two {F : Nat}  {r : Int} {σ' : mMem} {x0 x1 x3 : Int} {σ : mMem} (hf : g_X12_two F x0 x1 x3 σ = some (r, σ')) : ∀ q j, ¬ T_X12_two  q j → σ' q j = σ q j := by
  unfold g_X12_two at hf
  have hs : ∀ q j, ¬ T_X12_two  q j → σ q j = σ q j := fun _ _ _ => rfl
  refine f_ite hf (fun hf => ?_) (fun hf => ?_)
  · refine f_mob hf (fun r1 σ2 h1 hf => ?_)
    have hs := fun q j hq => (f_X12_held h1 q j (by unfold T_X12_held; exact id)).trans (hs q j hq)
    cases hf
    exact hs
  refine f_ite hf (fun hf => ?_) (fun hf => ?_)
  · refine f_mob hf (fun r3 σ4 h1 hf => ?_)
    have hs := fun q j hq => (f_X12_held h1 q j (by unfold T_X12_held; exact id)).trans (hs q j hq)
    cases hf
    exact hs
  refine f_ite hf (fun hf => ?_) (fun hf => ?_)
  · refine f_mob hf (fun r5 σ6 h1 hf => ?_)
    have hs := fun q j hq => (f_X12_held h1 q j (by unfold T_X12_held; exact id)).trans (hs q j hq)
    cases hf
    exact hs
  refine f_ite hf (fun hf => ?_) (fun hf => ?_)
  · refine f_mob hf (fun r7 σ8 h1 hf => ?_)
    have hs := fun q j hq => (f_X12_floor h1 q j (by unfold T_X12_floor; exact id)).trans (hs q j hq)
    refine f_mob hf (fun r9 σ10 h1 hf => ?_)
    have hs := fun q j hq => (f_X12_held h1 q j (by unfold T_X12_held; exact id)).trans (hs q j hq)
    cases hf
    exact hs
  refine f_ite hf (fun hf => ?_) (fun hf => ?_)
  · refine f_ite hf (fun hf => ?_) (fun hf => ?_)
    · refine f_mob hf (fun r11 σ12 h1 hf => ?_)
      have hs := fun q j hq => (f_X12_floor h1 q j (by unfold T_X12_floor; exact id)).trans (hs q j hq)
      refine f_mob hf (fun r13 σ14 h1 hf => ?_)
      have hs := fun q j hq => (f_X12_held h1 q j (by unfold T_X12_held; exact id)).trans (hs q j hq)
      exact fun q j hq => (f_X12_two_b112 hf q j hq).trans (hs q j hq)
    · exact fun q j hq => (f_X12_two_b112 hf q j hq).trans (hs q j hq)
  refine f_ite hf (fun hf => ?_) (fun hf => ?_)
  · refine f_ite hf (fun hf => ?_) (fun hf => ?_)
    · exact fun q j hq => (f_X12_two_b124 hf q j hq).trans (hs q j hq)
    · exact fun q j hq => (f_X12_two_b124 hf q j hq).trans (hs q j hq)
  refine f_ite hf (fun hf => ?_) (fun hf => ?_)
  · refine f_ite hf (fun hf => ?_) (fun hf => ?_)
    · exact fun q j hq => (f_X12_two_b136 hf q j hq).trans (hs q j hq)
    · exact fun q j hq => (f_X12_two_b136 hf q j hq).trans (hs q j hq)
  refine f_ite hf (fun hf => ?_) (fun hf => ?_)
  · refine f_ite hf (fun hf => ?_) (fun hf => ?_)
    · exact fun q j hq => (f_X12_two_b148 hf q j hq).trans (hs q j hq)
    · exact fun q j hq => (f_X12_two_b148 hf q j hq).trans (hs q j hq)
  refine f_ite hf (fun hf => ?_) (fun hf => ?_)
  · refine f_ite hf (fun hf => ?_) (fun hf => ?_)
    · exact fun q j hq => (f_X12_two_b160 hf q j hq).trans (hs q j hq)
    · exact fun q j hq => (f_X12_two_b160 hf q j hq).trans (hs q j hq)
  refine f_ite hf (fun hf => ?_) (fun hf => ?_)
  · refine f_ite hf (fun hf => ?_) (fun hf => ?_)
    · exact fun q j hq => (f_X12_two_b172 hf q j hq).trans (hs q j hq)
    · exact fun q j hq => (f_X12_two_b172 hf q j hq).trans (hs q j hq)
  refine f_ite hf (fun hf => ?_) (fun hf => ?_)
  · cases hf
    exact hs
  cases hf
  exact hs
def T_X12_reckons  (q j : Nat) : Prop := q = 119
theorem f_X12_reckons_b221 {F : Nat}  {r : Int} {σ' : mMem} {k25 : Int → Int → Int → mMem → mRs} (hk25 : ∀ (x1 x2 x3 : Int) (σ : mMem), k25 x1 x2 x3 σ = some (r, σ') → ∀ q j, ¬ T_X12_reckons  q j → σ' q j = σ q j) {x1 x2 x3 : Int} {σ : mMem} (hf : g_X12_reckons_b221 F k25 x1 x2 x3 σ = some (r, σ')) : ∀ q j, ¬ T_X12_reckons  q j → σ' q j = σ q j := by
  unfold g_X12_reckons_b221 at hf
  have hs : ∀ q j, ¬ T_X12_reckons  q j → σ q j = σ q j := fun _ _ _ => rfl
  exact fun q j hq => (hk25 _ _ _ _ hf q j hq).trans (hs q j hq)
theorem f_X12_reckons_b187 {F : Nat}  {r : Int} {σ' : mMem} {k25 : Int → Int → Int → mMem → mRs} (hk25 : ∀ (x1 x2 x3 : Int) (σ : mMem), k25 x1 x2 x3 σ = some (r, σ') → ∀ q j, ¬ T_X12_reckons  q j → σ' q j = σ q j) {x1 x2 x3 t0 t1 : Int} {σ : mMem} (hf : g_X12_reckons_b187 F k25 x1 x2 x3 t0 t1 σ = some (r, σ')) : ∀ q j, ¬ T_X12_reckons  q j → σ' q j = σ q j := by
  unfold g_X12_reckons_b187 at hf
  have hs : ∀ q j, ¬ T_X12_reckons  q j → σ q j = σ q j := fun _ _ _ => rfl
  refine f_gd hf (fun hf => ?_)
  refine f_mem hf (fun q j hq => (mup_ne (by unfold T_X12_reckons at hq; omega)).trans (hs q j hq)) (fun σ307 hs hf => ?_)
  exact fun q j hq => (f_X12_reckons_b221 hk25 hf q j hq).trans (hs q j hq)
theorem f_X12_reckons_b105 {F : Nat}  {r : Int} {σ' : mMem} {k25 : Int → Int → Int → mMem → mRs} (hk25 : ∀ (x1 x2 x3 : Int) (σ : mMem), k25 x1 x2 x3 σ = some (r, σ') → ∀ q j, ¬ T_X12_reckons  q j → σ' q j = σ q j) {x1 x2 x3 t0 t1 : Int} {σ : mMem} (hf : g_X12_reckons_b105 F k25 x1 x2 x3 t0 t1 σ = some (r, σ')) : ∀ q j, ¬ T_X12_reckons  q j → σ' q j = σ q j := by
  unfold g_X12_reckons_b105 at hf
  have hs : ∀ q j, ¬ T_X12_reckons  q j → σ q j = σ q j := fun _ _ _ => rfl
  refine f_gd hf (fun hf => ?_)
  refine f_mem hf (fun q j hq => (mup_ne (by unfold T_X12_reckons at hq; omega)).trans (hs q j hq)) (fun σ408 hs hf => ?_)
  exact fun q j hq => (f_X12_reckons_b221 hk25 hf q j hq).trans (hs q j hq)
theorem f_X12_reckons_h25 {F : Nat}  {r : Int} {σ' : mMem}   (n : Nat) : ∀ {x1 x2 x3 : Int} {σ : mMem} (_ : g_X12_reckons_h25 F n x1 x2 x3 σ = some (r, σ')), ∀ q j, ¬ T_X12_reckons  q j → σ' q j = σ q j := by
  induction n with
  | zero =>
    intro x1 x2 x3 σ hf
    unfold g_X12_reckons_h25 at hf
    cases hf
  | succ n ih =>
    have hk25 : ∀ (x1 x2 x3 : Int) (σ : mMem), g_X12_reckons_h25 F n x1 x2 x3 σ = some (r, σ') → ∀ q j, ¬ T_X12_reckons  q j → σ' q j = σ q j := fun x1 x2 x3 σ hf => ih hf
    intro x1 x2 x3 σ hf
    unfold g_X12_reckons_h25 at hf
    have hs : ∀ q j, ¬ T_X12_reckons  q j → σ q j = σ q j := fun _ _ _ => rfl
    refine f_gd hf (fun hf => ?_)
    refine f_ite hf (fun hf => ?_) (fun hf => ?_)
    · refine f_gd hf (fun hf => ?_)
      cases hf
      exact hs
    · refine f_gd hf (fun hf => ?_)
      refine f_let hf (fun y102 hf => ?_)
      refine f_ite hf (fun hf => ?_) (fun hf => ?_)
      · refine f_ite hf (fun hf => ?_) (fun hf => ?_)
        · refine f_ite hf (fun hf => ?_) (fun hf => ?_)
          · refine f_gd hf (fun hf => ?_)
            refine f_gd hf (fun hf => ?_)
            refine f_mob hf (fun r103 σ104 h1 hf => ?_)
            have hs := fun q j hq => (f_X12_two h1 q j (by unfold T_X12_two; exact id)).trans (hs q j hq)
            refine f_gd hf (fun hf => ?_)
            refine f_mem hf (fun q j hq => (mup_ne (by unfold T_X12_reckons at hq; omega)).trans (hs q j hq)) (fun σ105 hs hf => ?_)
            exact fun q j hq => (f_X12_reckons_b221 hk25 hf q j hq).trans (hs q j hq)
          · refine f_gd hf (fun hf => ?_)
            refine f_ite hf (fun hf => ?_) (fun hf => ?_)
            · refine f_gd hf (fun hf => ?_)
              exact fun q j hq => (f_X12_reckons_b187 hk25 hf q j hq).trans (hs q j hq)
            · refine f_gd hf (fun hf => ?_)
              exact fun q j hq => (f_X12_reckons_b187 hk25 hf q j hq).trans (hs q j hq)
        · refine f_gd hf (fun hf => ?_)
          refine f_gd hf (fun hf => ?_)
          refine f_mem hf (fun q j hq => (mup_ne (by unfold T_X12_reckons at hq; omega)).trans (hs q j hq)) (fun σ106 hs hf => ?_)
          exact fun q j hq => (f_X12_reckons_b221 hk25 hf q j hq).trans (hs q j hq)
      · refine f_ite hf (fun hf => ?_) (fun hf => ?_)
        · refine f_ite hf (fun hf => ?_) (fun hf => ?_)
          · refine f_gd hf (fun hf => ?_)
            exact fun q j hq => (f_X12_reckons_b105 hk25 hf q j hq).trans (hs q j hq)
          · exact fun q j hq => (f_X12_reckons_b105 hk25 hf q j hq).trans (hs q j hq)
        · refine f_gd hf (fun hf => ?_)
          exact fun q j hq => (f_X12_reckons_b105 hk25 hf q j hq).trans (hs q j hq)
theorem f_X12_reckons {F : Nat}  {r : Int} {σ' : mMem} {x1 : Int} {σ : mMem} (hf : g_X12_reckons F x1 σ = some (r, σ')) : ∀ q j, ¬ T_X12_reckons  q j → σ' q j = σ q j := by
  unfold g_X12_reckons at hf
  have hs : ∀ q j, ¬ T_X12_reckons  q j → σ q j = σ q j := fun _ _ _ => rfl
  refine f_gd hf (fun hf => ?_)
  refine f_let hf (fun y1 hf => ?_)
  exact fun q j hq => (f_X12_reckons_h25 _ hf q j hq).trans (hs q j hq)
def T_X12_isTold  (q j : Nat) : Prop := False
theorem f_X12_isTold_b22 {F : Nat}  {r : Int} {σ' : mMem}   {t0 : Int} {σ : mMem} (hf : g_X12_isTold_b22 F t0 σ = some (r, σ')) : ∀ q j, ¬ T_X12_isTold  q j → σ' q j = σ q j := by
  unfold g_X12_isTold_b22 at hf
  have hs : ∀ q j, ¬ T_X12_isTold  q j → σ q j = σ q j := fun _ _ _ => rfl
  refine f_gd hf (fun hf => ?_)
  cases hf
  exact hs
theorem f_X12_isTold {F : Nat}  {r : Int} {σ' : mMem} {x1 : Int} {σ : mMem} (hf : g_X12_isTold F x1 σ = some (r, σ')) : ∀ q j, ¬ T_X12_isTold  q j → σ' q j = σ q j := by
  unfold g_X12_isTold at hf
  have hs : ∀ q j, ¬ T_X12_isTold  q j → σ q j = σ q j := fun _ _ _ => rfl
  refine f_gd hf (fun hf => ?_)
  refine f_ite hf (fun hf => ?_) (fun hf => ?_)
  · exact fun q j hq => (f_X12_isTold_b22 hf q j hq).trans (hs q j hq)
  · exact fun q j hq => (f_X12_isTold_b22 hf q j hq).trans (hs q j hq)
def T_X12_isOn  (q j : Nat) : Prop := False
theorem f_X12_isOn_b43 {F : Nat}  {r : Int} {σ' : mMem}   {t0 : Int} {σ : mMem} (hf : g_X12_isOn_b43 F t0 σ = some (r, σ')) : ∀ q j, ¬ T_X12_isOn  q j → σ' q j = σ q j := by
  unfold g_X12_isOn_b43 at hf
  have hs : ∀ q j, ¬ T_X12_isOn  q j → σ q j = σ q j := fun _ _ _ => rfl
  refine f_gd hf (fun hf => ?_)
  cases hf
  exact hs
theorem f_X12_isOn_b42 {F : Nat}  {r : Int} {σ' : mMem}   {σ : mMem} (hf : g_X12_isOn_b42 F  σ = some (r, σ')) : ∀ q j, ¬ T_X12_isOn  q j → σ' q j = σ q j := by
  unfold g_X12_isOn_b42 at hf
  have hs : ∀ q j, ¬ T_X12_isOn  q j → σ q j = σ q j := fun _ _ _ => rfl
  exact fun q j hq => (f_X12_isOn_b43 hf q j hq).trans (hs q j hq)
theorem f_X12_isOn {F : Nat}  {r : Int} {σ' : mMem} {x1 x2 : Int} {σ : mMem} (hf : g_X12_isOn F x1 x2 σ = some (r, σ')) : ∀ q j, ¬ T_X12_isOn  q j → σ' q j = σ q j := by
  unfold g_X12_isOn at hf
  have hs : ∀ q j, ¬ T_X12_isOn  q j → σ q j = σ q j := fun _ _ _ => rfl
  refine f_gd hf (fun hf => ?_)
  refine f_mob hf (fun r1 σ2 h1 hf => ?_)
  have hs := fun q j hq => (f_X12_is h1 q j (by unfold T_X12_is; exact id)).trans (hs q j hq)
  refine f_ite hf (fun hf => ?_) (fun hf => ?_)
  · exact fun q j hq => (f_X12_isOn_b42 hf q j hq).trans (hs q j hq)
  · refine f_gd hf (fun hf => ?_)
    refine f_mob hf (fun r3 σ4 h1 hf => ?_)
    have hs := fun q j hq => (f_X12_is h1 q j (by unfold T_X12_is; exact id)).trans (hs q j hq)
    refine f_ite hf (fun hf => ?_) (fun hf => ?_)
    · exact fun q j hq => (f_X12_isOn_b42 hf q j hq).trans (hs q j hq)
    · exact fun q j hq => (f_X12_isOn_b43 hf q j hq).trans (hs q j hq)
def T_X12_columnBy  (q j : Nat) : Prop := False
theorem f_X12_columnBy_b19 {F : Nat}  {r : Int} {σ' : mMem}   {t0 : Int} {σ : mMem} (hf : g_X12_columnBy_b19 F t0 σ = some (r, σ')) : ∀ q j, ¬ T_X12_columnBy  q j → σ' q j = σ q j := by
  unfold g_X12_columnBy_b19 at hf
  have hs : ∀ q j, ¬ T_X12_columnBy  q j → σ q j = σ q j := fun _ _ _ => rfl
  cases hf
  exact hs
theorem f_X12_columnBy {F : Nat}  {r : Int} {σ' : mMem} {x0 : Int} {σ : mMem} (hf : g_X12_columnBy F x0 σ = some (r, σ')) : ∀ q j, ¬ T_X12_columnBy  q j → σ' q j = σ q j := by
  unfold g_X12_columnBy at hf
  have hs : ∀ q j, ¬ T_X12_columnBy  q j → σ q j = σ q j := fun _ _ _ => rfl
  refine f_ite hf (fun hf => ?_) (fun hf => ?_)
  · refine f_ite hf (fun hf => ?_) (fun hf => ?_)
    · exact fun q j hq => (f_X12_columnBy_b19 hf q j hq).trans (hs q j hq)
    · exact fun q j hq => (f_X12_columnBy_b19 hf q j hq).trans (hs q j hq)
  · exact fun q j hq => (f_X12_columnBy_b19 hf q j hq).trans (hs q j hq)
def T_X12_rowBy  (q j : Nat) : Prop := False
theorem f_X12_rowBy_b18 {F : Nat}  {r : Int} {σ' : mMem}   {t0 : Int} {σ : mMem} (hf : g_X12_rowBy_b18 F t0 σ = some (r, σ')) : ∀ q j, ¬ T_X12_rowBy  q j → σ' q j = σ q j := by
  unfold g_X12_rowBy_b18 at hf
  have hs : ∀ q j, ¬ T_X12_rowBy  q j → σ q j = σ q j := fun _ _ _ => rfl
  cases hf
  exact hs
theorem f_X12_rowBy {F : Nat}  {r : Int} {σ' : mMem} {x0 : Int} {σ : mMem} (hf : g_X12_rowBy F x0 σ = some (r, σ')) : ∀ q j, ¬ T_X12_rowBy  q j → σ' q j = σ q j := by
  unfold g_X12_rowBy at hf
  have hs : ∀ q j, ¬ T_X12_rowBy  q j → σ q j = σ q j := fun _ _ _ => rfl
  refine f_ite hf (fun hf => ?_) (fun hf => ?_)
  · refine f_ite hf (fun hf => ?_) (fun hf => ?_)
    · exact fun q j hq => (f_X12_rowBy_b18 hf q j hq).trans (hs q j hq)
    · exact fun q j hq => (f_X12_rowBy_b18 hf q j hq).trans (hs q j hq)
  · exact fun q j hq => (f_X12_rowBy_b18 hf q j hq).trans (hs q j hq)
def T_X12_off  (q j : Nat) : Prop := False
theorem f_X12_off_b74 {F : Nat}  {r : Int} {σ' : mMem}   {t0 : Int} {σ : mMem} (hf : g_X12_off_b74 F t0 σ = some (r, σ')) : ∀ q j, ¬ T_X12_off  q j → σ' q j = σ q j := by
  unfold g_X12_off_b74 at hf
  have hs : ∀ q j, ¬ T_X12_off  q j → σ q j = σ q j := fun _ _ _ => rfl
  cases hf
  exact hs
theorem f_X12_off {F : Nat}  {r : Int} {σ' : mMem} {x1 x2 x3 x4 : Int} {σ : mMem} (hf : g_X12_off F x1 x2 x3 x4 σ = some (r, σ')) : ∀ q j, ¬ T_X12_off  q j → σ' q j = σ q j := by
  unfold g_X12_off at hf
  have hs : ∀ q j, ¬ T_X12_off  q j → σ q j = σ q j := fun _ _ _ => rfl
  refine f_dv hf (fun hf => ?_)
  refine f_let hf (fun y1 hf => ?_)
  refine f_dv hf (fun hf => ?_)
  refine f_mob hf (fun r2 σ3 h1 hf => ?_)
  have hs := fun q j hq => (f_X12_columnBy h1 q j (by unfold T_X12_columnBy; exact id)).trans (hs q j hq)
  refine f_mob hf (fun r4 σ5 h1 hf => ?_)
  have hs := fun q j hq => (f_X12_columnBy h1 q j (by unfold T_X12_columnBy; exact id)).trans (hs q j hq)
  refine f_let hf (fun y6 hf => ?_)
  refine f_dv hf (fun hf => ?_)
  refine f_mob hf (fun r7 σ8 h1 hf => ?_)
  have hs := fun q j hq => (f_X12_rowBy h1 q j (by unfold T_X12_rowBy; exact id)).trans (hs q j hq)
  refine f_mob hf (fun r9 σ10 h1 hf => ?_)
  have hs := fun q j hq => (f_X12_rowBy h1 q j (by unfold T_X12_rowBy; exact id)).trans (hs q j hq)
  refine f_let hf (fun y11 hf => ?_)
  refine f_mob hf (fun r12 σ13 h1 hf => ?_)
  have hs := fun q j hq => (f_X12_isOn h1 q j (by unfold T_X12_isOn; exact id)).trans (hs q j hq)
  refine f_ite hf (fun hf => ?_) (fun hf => ?_)
  · exact fun q j hq => (f_X12_off_b74 hf q j hq).trans (hs q j hq)
  · exact fun q j hq => (f_X12_off_b74 hf q j hq).trans (hs q j hq)
def T_X12_seen  (q j : Nat) : Prop := False
theorem f_X12_seen_b40 {F : Nat}  {r : Int} {σ' : mMem}   {t0 : Int} {σ : mMem} (hf : g_X12_seen_b40 F t0 σ = some (r, σ')) : ∀ q j, ¬ T_X12_seen  q j → σ' q j = σ q j := by
  unfold g_X12_seen_b40 at hf
  have hs : ∀ q j, ¬ T_X12_seen  q j → σ q j = σ q j := fun _ _ _ => rfl
  cases hf
  exact hs
theorem f_X12_seen_b30 {F : Nat}  {r : Int} {σ' : mMem}   {t0 : Int} {σ : mMem} (hf : g_X12_seen_b30 F t0 σ = some (r, σ')) : ∀ q j, ¬ T_X12_seen  q j → σ' q j = σ q j := by
  unfold g_X12_seen_b30 at hf
  have hs : ∀ q j, ¬ T_X12_seen  q j → σ q j = σ q j := fun _ _ _ => rfl
  refine f_ite hf (fun hf => ?_) (fun hf => ?_)
  · exact fun q j hq => (f_X12_seen_b40 hf q j hq).trans (hs q j hq)
  · exact fun q j hq => (f_X12_seen_b40 hf q j hq).trans (hs q j hq)
theorem f_X12_seen {F : Nat}  {r : Int} {σ' : mMem} {x1 x2 : Int} {σ : mMem} (hf : g_X12_seen F x1 x2 σ = some (r, σ')) : ∀ q j, ¬ T_X12_seen  q j → σ' q j = σ q j := by
  unfold g_X12_seen at hf
  have hs : ∀ q j, ¬ T_X12_seen  q j → σ q j = σ q j := fun _ _ _ => rfl
  refine f_ite hf (fun hf => ?_) (fun hf => ?_)
  · refine f_gd hf (fun hf => ?_)
    refine f_gd hf (fun hf => ?_)
    exact fun q j hq => (f_X12_seen_b30 hf q j hq).trans (hs q j hq)
  · exact fun q j hq => (f_X12_seen_b30 hf q j hq).trans (hs q j hq)
def T_X12_isBlack  (q j : Nat) : Prop := False
theorem f_X12_isBlack_b15 {F : Nat}  {r : Int} {σ' : mMem}   {t0 : Int} {σ : mMem} (hf : g_X12_isBlack_b15 F t0 σ = some (r, σ')) : ∀ q j, ¬ T_X12_isBlack  q j → σ' q j = σ q j := by
  unfold g_X12_isBlack_b15 at hf
  have hs : ∀ q j, ¬ T_X12_isBlack  q j → σ q j = σ q j := fun _ _ _ => rfl
  refine f_gd hf (fun hf => ?_)
  cases hf
  exact hs
theorem f_X12_isBlack {F : Nat}  {r : Int} {σ' : mMem} {x1 x2 : Int} {σ : mMem} (hf : g_X12_isBlack F x1 x2 σ = some (r, σ')) : ∀ q j, ¬ T_X12_isBlack  q j → σ' q j = σ q j := by
  unfold g_X12_isBlack at hf
  have hs : ∀ q j, ¬ T_X12_isBlack  q j → σ q j = σ q j := fun _ _ _ => rfl
  refine f_mob hf (fun r1 σ2 h1 hf => ?_)
  have hs := fun q j hq => (f_X12_seen h1 q j (by unfold T_X12_seen; exact id)).trans (hs q j hq)
  refine f_ite hf (fun hf => ?_) (fun hf => ?_)
  · exact fun q j hq => (f_X12_isBlack_b15 hf q j hq).trans (hs q j hq)
  · exact fun q j hq => (f_X12_isBlack_b15 hf q j hq).trans (hs q j hq)
def T_X12_apart  (q j : Nat) : Prop := False
theorem f_X12_apart_b29 {F : Nat}  {r : Int} {σ' : mMem}   {t0 : Int} {σ : mMem} (hf : g_X12_apart_b29 F t0 σ = some (r, σ')) : ∀ q j, ¬ T_X12_apart  q j → σ' q j = σ q j := by
  unfold g_X12_apart_b29 at hf
  have hs : ∀ q j, ¬ T_X12_apart  q j → σ q j = σ q j := fun _ _ _ => rfl
  cases hf
  exact hs
theorem f_X12_apart {F : Nat}  {r : Int} {σ' : mMem} {x1 : Int} {σ : mMem} (hf : g_X12_apart F x1 σ = some (r, σ')) : ∀ q j, ¬ T_X12_apart  q j → σ' q j = σ q j := by
  unfold g_X12_apart at hf
  have hs : ∀ q j, ¬ T_X12_apart  q j → σ q j = σ q j := fun _ _ _ => rfl
  refine f_ite hf (fun hf => ?_) (fun hf => ?_)
  · refine f_gd hf (fun hf => ?_)
    exact fun q j hq => (f_X12_apart_b29 hf q j hq).trans (hs q j hq)
  · exact fun q j hq => (f_X12_apart_b29 hf q j hq).trans (hs q j hq)
def T_X12_on  (q j : Nat) : Prop := False
theorem f_X12_on_b29 {F : Nat}  {r : Int} {σ' : mMem}   {t0 : Int} {σ : mMem} (hf : g_X12_on_b29 F t0 σ = some (r, σ')) : ∀ q j, ¬ T_X12_on  q j → σ' q j = σ q j := by
  unfold g_X12_on_b29 at hf
  have hs : ∀ q j, ¬ T_X12_on  q j → σ q j = σ q j := fun _ _ _ => rfl
  cases hf
  exact hs
theorem f_X12_on {F : Nat}  {r : Int} {σ' : mMem} {x1 : Int} {σ : mMem} (hf : g_X12_on F x1 σ = some (r, σ')) : ∀ q j, ¬ T_X12_on  q j → σ' q j = σ q j := by
  unfold g_X12_on at hf
  have hs : ∀ q j, ¬ T_X12_on  q j → σ q j = σ q j := fun _ _ _ => rfl
  refine f_ite hf (fun hf => ?_) (fun hf => ?_)
  · refine f_gd hf (fun hf => ?_)
    exact fun q j hq => (f_X12_on_b29 hf q j hq).trans (hs q j hq)
  · exact fun q j hq => (f_X12_on_b29 hf q j hq).trans (hs q j hq)
def T_X12_bias  (q j : Nat) : Prop := False
theorem f_X12_bias_b29 {F : Nat}  {r : Int} {σ' : mMem}   {t0 : Int} {σ : mMem} (hf : g_X12_bias_b29 F t0 σ = some (r, σ')) : ∀ q j, ¬ T_X12_bias  q j → σ' q j = σ q j := by
  unfold g_X12_bias_b29 at hf
  have hs : ∀ q j, ¬ T_X12_bias  q j → σ q j = σ q j := fun _ _ _ => rfl
  cases hf
  exact hs
theorem f_X12_bias {F : Nat}  {r : Int} {σ' : mMem} {x1 : Int} {σ : mMem} (hf : g_X12_bias F x1 σ = some (r, σ')) : ∀ q j, ¬ T_X12_bias  q j → σ' q j = σ q j := by
  unfold g_X12_bias at hf
  have hs : ∀ q j, ¬ T_X12_bias  q j → σ q j = σ q j := fun _ _ _ => rfl
  refine f_ite hf (fun hf => ?_) (fun hf => ?_)
  · refine f_gd hf (fun hf => ?_)
    exact fun q j hq => (f_X12_bias_b29 hf q j hq).trans (hs q j hq)
  · exact fun q j hq => (f_X12_bias_b29 hf q j hq).trans (hs q j hq)
def T_X12_eye  (q j : Nat) : Prop := False
theorem f_X12_eye_b27 {F : Nat}  {r : Int} {σ' : mMem}   {x1 x2 t0 : Int} {σ : mMem} (hf : g_X12_eye_b27 F x1 x2 t0 σ = some (r, σ')) : ∀ q j, ¬ T_X12_eye  q j → σ' q j = σ q j := by
  unfold g_X12_eye_b27 at hf
  have hs : ∀ q j, ¬ T_X12_eye  q j → σ q j = σ q j := fun _ _ _ => rfl
  refine f_gd hf (fun hf => ?_)
  refine f_gd hf (fun hf => ?_)
  refine f_mob hf (fun r105 σ106 h1 hf => ?_)
  have hs := fun q j hq => (f_X12_on h1 q j (by unfold T_X12_on; exact id)).trans (hs q j hq)
  refine f_mob hf (fun r107 σ108 h1 hf => ?_)
  have hs := fun q j hq => (f_X12_off h1 q j (by unfold T_X12_off; exact id)).trans (hs q j hq)
  refine f_mob hf (fun r109 σ110 h1 hf => ?_)
  have hs := fun q j hq => (f_X12_seen h1 q j (by unfold T_X12_seen; exact id)).trans (hs q j hq)
  cases hf
  exact hs
theorem f_X12_eye {F : Nat}  {r : Int} {σ' : mMem} {x1 x2 x3 : Int} {σ : mMem} (hf : g_X12_eye F x1 x2 x3 σ = some (r, σ')) : ∀ q j, ¬ T_X12_eye  q j → σ' q j = σ q j := by
  unfold g_X12_eye at hf
  have hs : ∀ q j, ¬ T_X12_eye  q j → σ q j = σ q j := fun _ _ _ => rfl
  refine f_ite hf (fun hf => ?_) (fun hf => ?_)
  · refine f_ite hf (fun hf => ?_) (fun hf => ?_)
    · exact fun q j hq => (f_X12_eye_b27 hf q j hq).trans (hs q j hq)
    · refine f_mob hf (fun r1 σ2 h1 hf => ?_)
      have hs := fun q j hq => (f_X12_apart h1 q j (by unfold T_X12_apart; exact id)).trans (hs q j hq)
      exact fun q j hq => (f_X12_eye_b27 hf q j hq).trans (hs q j hq)
  · refine f_mob hf (fun r3 σ4 h1 hf => ?_)
    have hs := fun q j hq => (f_X12_apart h1 q j (by unfold T_X12_apart; exact id)).trans (hs q j hq)
    exact fun q j hq => (f_X12_eye_b27 hf q j hq).trans (hs q j hq)
def T_X12_who  (q j : Nat) : Prop := False
theorem f_X12_who_h2 {F : Nat}  {r : Int} {σ' : mMem}   (n : Nat) : ∀ {x1 x2 x3 : Int} {σ : mMem} (_ : g_X12_who_h2 F n x1 x2 x3 σ = some (r, σ')), ∀ q j, ¬ T_X12_who  q j → σ' q j = σ q j := by
  induction n with
  | zero =>
    intro x1 x2 x3 σ hf
    unfold g_X12_who_h2 at hf
    cases hf
  | succ n ih =>
    have hk2 : ∀ (x1 x2 x3 : Int) (σ : mMem), g_X12_who_h2 F n x1 x2 x3 σ = some (r, σ') → ∀ q j, ¬ T_X12_who  q j → σ' q j = σ q j := fun x1 x2 x3 σ hf => ih hf
    intro x1 x2 x3 σ hf
    unfold g_X12_who_h2 at hf
    have hs : ∀ q j, ¬ T_X12_who  q j → σ q j = σ q j := fun _ _ _ => rfl
    refine f_gd hf (fun hf => ?_)
    refine f_ite hf (fun hf => ?_) (fun hf => ?_)
    · cases hf
      exact hs
    · refine f_gd hf (fun hf => ?_)
      refine f_ite hf (fun hf => ?_) (fun hf => ?_)
      · exact fun q j hq => (hk2 _ _ _ _ hf q j hq).trans (hs q j hq)
      · cases hf
        exact hs
theorem f_X12_who {F : Nat}  {r : Int} {σ' : mMem} {x1 x2 : Int} {σ : mMem} (hf : g_X12_who F x1 x2 σ = some (r, σ')) : ∀ q j, ¬ T_X12_who  q j → σ' q j = σ q j := by
  unfold g_X12_who at hf
  have hs : ∀ q j, ¬ T_X12_who  q j → σ q j = σ q j := fun _ _ _ => rfl
  exact fun q j hq => (f_X12_who_h2 _ hf q j hq).trans (hs q j hq)
def T_X12_writesDown  (q j : Nat) : Prop := q = 117 ∨ q = 118
theorem f_X12_writesDown_b62 {F : Nat}  {r : Int} {σ' : mMem}   {x1 x2 : Int} {σ : mMem} (hf : g_X12_writesDown_b62 F x1 x2 σ = some (r, σ')) : ∀ q j, ¬ T_X12_writesDown  q j → σ' q j = σ q j := by
  unfold g_X12_writesDown_b62 at hf
  have hs : ∀ q j, ¬ T_X12_writesDown  q j → σ q j = σ q j := fun _ _ _ => rfl
  refine f_gd hf (fun hf => ?_)
  refine f_let hf (fun y102 hf => ?_)
  refine f_gd hf (fun hf => ?_)
  refine f_gd hf (fun hf => ?_)
  refine f_mem hf (fun q j hq => (mup_ne (by unfold T_X12_writesDown at hq; omega)).trans (hs q j hq)) (fun σ103 hs hf => ?_)
  refine f_gd hf (fun hf => ?_)
  refine f_mem hf (fun q j hq => (mup_ne (by unfold T_X12_writesDown at hq; omega)).trans (hs q j hq)) (fun σ104 hs hf => ?_)
  refine f_gd hf (fun hf => ?_)
  refine f_dv hf (fun hf => ?_)
  refine f_gd hf (fun hf => ?_)
  refine f_mem hf (fun q j hq => (mup_ne (by unfold T_X12_writesDown at hq; omega)).trans (hs q j hq)) (fun σ105 hs hf => ?_)
  refine f_gd hf (fun hf => ?_)
  refine f_dv hf (fun hf => ?_)
  refine f_gd hf (fun hf => ?_)
  refine f_mem hf (fun q j hq => (mup_ne (by unfold T_X12_writesDown at hq; omega)).trans (hs q j hq)) (fun σ106 hs hf => ?_)
  refine f_gd hf (fun hf => ?_)
  refine f_gd hf (fun hf => ?_)
  refine f_mem hf (fun q j hq => (mup_ne (by unfold T_X12_writesDown at hq; omega)).trans (hs q j hq)) (fun σ107 hs hf => ?_)
  cases hf
  exact hs
theorem f_X12_writesDown_h17 {F : Nat}  {r : Int} {σ' : mMem}   (n : Nat) : ∀ {x1 x2 x3 : Int} {σ : mMem} (_ : g_X12_writesDown_h17 F n x1 x2 x3 σ = some (r, σ')), ∀ q j, ¬ T_X12_writesDown  q j → σ' q j = σ q j := by
  induction n with
  | zero =>
    intro x1 x2 x3 σ hf
    unfold g_X12_writesDown_h17 at hf
    cases hf
  | succ n ih =>
    have hk17 : ∀ (x1 x2 x3 : Int) (σ : mMem), g_X12_writesDown_h17 F n x1 x2 x3 σ = some (r, σ') → ∀ q j, ¬ T_X12_writesDown  q j → σ' q j = σ q j := fun x1 x2 x3 σ hf => ih hf
    intro x1 x2 x3 σ hf
    unfold g_X12_writesDown_h17 at hf
    have hs : ∀ q j, ¬ T_X12_writesDown  q j → σ q j = σ q j := fun _ _ _ => rfl
    refine f_ite hf (fun hf => ?_) (fun hf => ?_)
    · refine f_gd hf (fun hf => ?_)
      refine f_gd hf (fun hf => ?_)
      refine f_mem hf (fun q j hq => (mup_ne (by unfold T_X12_writesDown at hq; omega)).trans (hs q j hq)) (fun σ208 hs hf => ?_)
      exact fun q j hq => (f_X12_writesDown_b62 hf q j hq).trans (hs q j hq)
    · refine f_gd hf (fun hf => ?_)
      refine f_gd hf (fun hf => ?_)
      refine f_mem hf (fun q j hq => (mup_ne (by unfold T_X12_writesDown at hq; omega)).trans (hs q j hq)) (fun σ209 hs hf => ?_)
      exact fun q j hq => (hk17 _ _ _ _ hf q j hq).trans (hs q j hq)
theorem f_X12_writesDown {F : Nat}  {r : Int} {σ' : mMem} {x1 x2 : Int} {σ : mMem} (hf : g_X12_writesDown F x1 x2 σ = some (r, σ')) : ∀ q j, ¬ T_X12_writesDown  q j → σ' q j = σ q j := by
  unfold g_X12_writesDown at hf
  have hs : ∀ q j, ¬ T_X12_writesDown  q j → σ q j = σ q j := fun _ _ _ => rfl
  refine f_gd hf (fun hf => ?_)
  refine f_ite hf (fun hf => ?_) (fun hf => ?_)
  · exact fun q j hq => (f_X12_writesDown_b62 hf q j hq).trans (hs q j hq)
  · refine f_let hf (fun y1 hf => ?_)
    exact fun q j hq => (f_X12_writesDown_h17 _ hf q j hq).trans (hs q j hq)
def T_X12_steers  (q j : Nat) : Prop := q = 113 ∨ q = 115 ∨ q = 119 ∨ q = 120
theorem f_X12_steers_b244 {F : Nat}  {r : Int} {σ' : mMem}   {t0 t1 t2 : Int} {σ : mMem} (hf : g_X12_steers_b244 F t0 t1 t2 σ = some (r, σ')) : ∀ q j, ¬ T_X12_steers  q j → σ' q j = σ q j := by
  unfold g_X12_steers_b244 at hf
  have hs : ∀ q j, ¬ T_X12_steers  q j → σ q j = σ q j := fun _ _ _ => rfl
  refine f_dv hf (fun hf => ?_)
  refine f_gd hf (fun hf => ?_)
  refine f_mem hf (fun q j hq => (mup_ne (by unfold T_X12_steers at hq; omega)).trans (hs q j hq)) (fun σ620 hs hf => ?_)
  cases hf
  exact hs
theorem f_X12_steers_b196 {F : Nat}  {r : Int} {σ' : mMem}   {x3 x5 t0 t1 : Int} {σ : mMem} (hf : g_X12_steers_b196 F x3 x5 t0 t1 σ = some (r, σ')) : ∀ q j, ¬ T_X12_steers  q j → σ' q j = σ q j := by
  unfold g_X12_steers_b196 at hf
  have hs : ∀ q j, ¬ T_X12_steers  q j → σ q j = σ q j := fun _ _ _ => rfl
  refine f_gd hf (fun hf => ?_)
  refine f_mem hf (fun q j hq => (mup_ne (by unfold T_X12_steers at hq; omega)).trans (hs q j hq)) (fun σ518 hs hf => ?_)
  refine f_gd hf (fun hf => ?_)
  refine f_gd hf (fun hf => ?_)
  refine f_mem hf (fun q j hq => (mup_ne (by unfold T_X12_steers at hq; omega)).trans (hs q j hq)) (fun σ519 hs hf => ?_)
  refine f_gd hf (fun hf => ?_)
  refine f_ite hf (fun hf => ?_) (fun hf => ?_)
  · refine f_ite hf (fun hf => ?_) (fun hf => ?_)
    · exact fun q j hq => (f_X12_steers_b244 hf q j hq).trans (hs q j hq)
    · exact fun q j hq => (f_X12_steers_b244 hf q j hq).trans (hs q j hq)
  · exact fun q j hq => (f_X12_steers_b244 hf q j hq).trans (hs q j hq)
theorem f_X12_steers_b176 {F : Nat}  {r : Int} {σ' : mMem}   {x3 t0 : Int} {σ : mMem} (hf : g_X12_steers_b176 F x3 t0 σ = some (r, σ')) : ∀ q j, ¬ T_X12_steers  q j → σ' q j = σ q j := by
  unfold g_X12_steers_b176 at hf
  have hs : ∀ q j, ¬ T_X12_steers  q j → σ q j = σ q j := fun _ _ _ => rfl
  refine f_ite hf (fun hf => ?_) (fun hf => ?_)
  · exact fun q j hq => (f_X12_steers_b196 hf q j hq).trans (hs q j hq)
  · exact fun q j hq => (f_X12_steers_b196 hf q j hq).trans (hs q j hq)
theorem f_X12_steers_b121 {F : Nat}  {r : Int} {σ' : mMem}   {x1 x3 t0 t1 : Int} {σ : mMem} (hf : g_X12_steers_b121 F x1 x3 t0 t1 σ = some (r, σ')) : ∀ q j, ¬ T_X12_steers  q j → σ' q j = σ q j := by
  unfold g_X12_steers_b121 at hf
  have hs : ∀ q j, ¬ T_X12_steers  q j → σ q j = σ q j := fun _ _ _ => rfl
  refine f_gd hf (fun hf => ?_)
  refine f_mem hf (fun q j hq => (mup_ne (by unfold T_X12_steers at hq; omega)).trans (hs q j hq)) (fun σ311 hs hf => ?_)
  refine f_gd hf (fun hf => ?_)
  refine f_gd hf (fun hf => ?_)
  refine f_mem hf (fun q j hq => (mup_ne (by unfold T_X12_steers at hq; omega)).trans (hs q j hq)) (fun σ312 hs hf => ?_)
  refine f_gd hf (fun hf => ?_)
  refine f_gd hf (fun hf => ?_)
  refine f_mem hf (fun q j hq => (mup_ne (by unfold T_X12_steers at hq; omega)).trans (hs q j hq)) (fun σ313 hs hf => ?_)
  refine f_mob hf (fun r314 σ315 h1 hf => ?_)
  have hs := fun q j hq => (f_X12_isTold h1 q j (by unfold T_X12_isTold; exact id)).trans (hs q j hq)
  refine f_ite hf (fun hf => ?_) (fun hf => ?_)
  · refine f_gd hf (fun hf => ?_)
    refine f_gd hf (fun hf => ?_)
    exact fun q j hq => (f_X12_steers_b176 hf q j hq).trans (hs q j hq)
  · refine f_mob hf (fun r316 σ317 h1 hf => ?_)
    have hs := fun q j hq => (f_X12_reckons h1 q j (by unfold T_X12_steers at hq; unfold T_X12_reckons; omega)).trans (hs q j hq)
    exact fun q j hq => (f_X12_steers_b176 hf q j hq).trans (hs q j hq)
theorem f_X12_steers_b81 {F : Nat}  {r : Int} {σ' : mMem}   {x1 x3 t0 : Int} {σ : mMem} (hf : g_X12_steers_b81 F x1 x3 t0 σ = some (r, σ')) : ∀ q j, ¬ T_X12_steers  q j → σ' q j = σ q j := by
  unfold g_X12_steers_b81 at hf
  have hs : ∀ q j, ¬ T_X12_steers  q j → σ q j = σ q j := fun _ _ _ => rfl
  refine f_ite hf (fun hf => ?_) (fun hf => ?_)
  · refine f_gd hf (fun hf => ?_)
    refine f_ite hf (fun hf => ?_) (fun hf => ?_)
    · exact fun q j hq => (f_X12_steers_b121 hf q j hq).trans (hs q j hq)
    · refine f_gd hf (fun hf => ?_)
      exact fun q j hq => (f_X12_steers_b121 hf q j hq).trans (hs q j hq)
  · exact fun q j hq => (f_X12_steers_b121 hf q j hq).trans (hs q j hq)
theorem f_X12_steers_b76 {F : Nat}  {r : Int} {σ' : mMem}   {x1 x3 : Int} {σ : mMem} (hf : g_X12_steers_b76 F x1 x3 σ = some (r, σ')) : ∀ q j, ¬ T_X12_steers  q j → σ' q j = σ q j := by
  unfold g_X12_steers_b76 at hf
  have hs : ∀ q j, ¬ T_X12_steers  q j → σ q j = σ q j := fun _ _ _ => rfl
  exact fun q j hq => (f_X12_steers_b81 hf q j hq).trans (hs q j hq)
theorem f_X12_steers {F : Nat}  {r : Int} {σ' : mMem} {x1 x2 : Int} {σ : mMem} (hf : g_X12_steers F x1 x2 σ = some (r, σ')) : ∀ q j, ¬ T_X12_steers  q j → σ' q j = σ q j := by
  unfold g_X12_steers at hf
  have hs : ∀ q j, ¬ T_X12_steers  q j → σ q j = σ q j := fun _ _ _ => rfl
  refine f_let hf (fun y1 hf => ?_)
  refine f_mob hf (fun r2 σ3 h1 hf => ?_)
  have hs := fun q j hq => (f_X12_eye h1 q j (by unfold T_X12_eye; exact id)).trans (hs q j hq)
  refine f_gd hf (fun hf => ?_)
  refine f_mem hf (fun q j hq => (mup_ne (by unfold T_X12_steers at hq; omega)).trans (hs q j hq)) (fun σ4 hs hf => ?_)
  refine f_mob hf (fun r5 σ6 h1 hf => ?_)
  have hs := fun q j hq => (f_X12_eye h1 q j (by unfold T_X12_eye; exact id)).trans (hs q j hq)
  refine f_gd hf (fun hf => ?_)
  refine f_mem hf (fun q j hq => (mup_ne (by unfold T_X12_steers at hq; omega)).trans (hs q j hq)) (fun σ7 hs hf => ?_)
  refine f_mob hf (fun r8 σ9 h1 hf => ?_)
  have hs := fun q j hq => (f_X12_eye h1 q j (by unfold T_X12_eye; exact id)).trans (hs q j hq)
  refine f_gd hf (fun hf => ?_)
  refine f_mem hf (fun q j hq => (mup_ne (by unfold T_X12_steers at hq; omega)).trans (hs q j hq)) (fun σ10 hs hf => ?_)
  refine f_gd hf (fun hf => ?_)
  refine f_ite hf (fun hf => ?_) (fun hf => ?_)
  · exact fun q j hq => (f_X12_steers_b76 hf q j hq).trans (hs q j hq)
  · refine f_gd hf (fun hf => ?_)
    refine f_ite hf (fun hf => ?_) (fun hf => ?_)
    · exact fun q j hq => (f_X12_steers_b76 hf q j hq).trans (hs q j hq)
    · refine f_gd hf (fun hf => ?_)
      refine f_ite hf (fun hf => ?_) (fun hf => ?_)
      · exact fun q j hq => (f_X12_steers_b81 hf q j hq).trans (hs q j hq)
      · exact fun q j hq => (f_X12_steers_b76 hf q j hq).trans (hs q j hq)
def T_X12_does  (q j : Nat) : Prop := (q = 86 ∧ (j = 63 ∨ j = 64)) ∨ q = 112 ∨ q = 113 ∨ q = 114 ∨ q = 115 ∨ q = 116 ∨ q = 117 ∨ q = 118 ∨ q = 119 ∨ q = 120
theorem f_X12_does_b89 {F : Nat}  {r : Int} {σ' : mMem}   {x2 : Int} {σ : mMem} (hf : g_X12_does_b89 F x2 σ = some (r, σ')) : ∀ q j, ¬ T_X12_does  q j → σ' q j = σ q j := by
  unfold g_X12_does_b89 at hf
  have hs : ∀ q j, ¬ T_X12_does  q j → σ q j = σ q j := fun _ _ _ => rfl
  refine f_mem hf (fun q j hq => (mup_ne (by unfold T_X12_does at hq; omega)).trans (hs q j hq)) (fun σ223 hs hf => ?_)
  cases hf
  exact hs
theorem f_X12_does_b185 {F : Nat}  {r : Int} {σ' : mMem}   {σ : mMem} (hf : g_X12_does_b185 F  σ = some (r, σ')) : ∀ q j, ¬ T_X12_does  q j → σ' q j = σ q j := by
  unfold g_X12_does_b185 at hf
  have hs : ∀ q j, ¬ T_X12_does  q j → σ q j = σ q j := fun _ _ _ => rfl
  cases hf
  exact hs
theorem f_X12_does_b52 {F : Nat}  {r : Int} {σ' : mMem}   {x1 x2 x3 : Int} {σ : mMem} (hf : g_X12_does_b52 F x1 x2 x3 σ = some (r, σ')) : ∀ q j, ¬ T_X12_does  q j → σ' q j = σ q j := by
  unfold g_X12_does_b52 at hf
  have hs : ∀ q j, ¬ T_X12_does  q j → σ q j = σ q j := fun _ _ _ => rfl
  refine f_gd hf (fun hf => ?_)
  refine f_gd hf (fun hf => ?_)
  refine f_mob hf (fun r109 σ110 h1 hf => ?_)
  have hs := fun q j hq => (f_X12_off h1 q j (by unfold T_X12_off; exact id)).trans (hs q j hq)
  refine f_ite hf (fun hf => ?_) (fun hf => ?_)
  · exact fun q j hq => (f_X12_does_b89 hf q j hq).trans (hs q j hq)
  · refine f_mob hf (fun r111 σ112 h1 hf => ?_)
    have hs := fun q j hq => (f_X12_who h1 q j (by unfold T_X12_who; exact id)).trans (hs q j hq)
    refine f_ite hf (fun hf => ?_) (fun hf => ?_)
    · refine f_gd hf (fun hf => ?_)
      refine f_mem hf (fun q j hq => (mup_ne (by unfold T_X12_does at hq; omega)).trans (hs q j hq)) (fun σ113 hs hf => ?_)
      refine f_gd hf (fun hf => ?_)
      refine f_dv hf (fun hf => ?_)
      refine f_gd hf (fun hf => ?_)
      refine f_mem hf (fun q j hq => (mup_ne (by unfold T_X12_does at hq; omega)).trans (hs q j hq)) (fun σ114 hs hf => ?_)
      refine f_mem hf (fun q j hq => (mup_ne (by unfold T_X12_does at hq; omega)).trans (hs q j hq)) (fun σ115 hs hf => ?_)
      refine f_mob hf (fun r116 σ117 h1 hf => ?_)
      have hs := fun q j hq => (f_X12_writesDown h1 q j (by unfold T_X12_does at hq; unfold T_X12_writesDown; omega)).trans (hs q j hq)
      refine f_mob hf (fun r118 σ119 h1 hf => ?_)
      have hs := fun q j hq => (f_X12_bias h1 q j (by unfold T_X12_bias; exact id)).trans (hs q j hq)
      refine f_ite hf (fun hf => ?_) (fun hf => ?_)
      · exact fun q j hq => (f_X12_does_b185 hf q j hq).trans (hs q j hq)
      · refine f_gd hf (fun hf => ?_)
        refine f_mob hf (fun r120 σ121 h1 hf => ?_)
        have hs := fun q j hq => (f_X12_bias h1 q j (by unfold T_X12_bias; exact id)).trans (hs q j hq)
        refine f_dv hf (fun hf => ?_)
        refine f_ite hf (fun hf => ?_) (fun hf => ?_)
        · exact fun q j hq => (f_X12_does_b185 hf q j hq).trans (hs q j hq)
        · refine f_gd hf (fun hf => ?_)
          refine f_dv hf (fun hf => ?_)
          refine f_gd hf (fun hf => ?_)
          refine f_mem hf (fun q j hq => (mup_ne (by unfold T_X12_does at hq; omega)).trans (hs q j hq)) (fun σ122 hs hf => ?_)
          exact fun q j hq => (f_X12_does_b185 hf q j hq).trans (hs q j hq)
    · exact fun q j hq => (f_X12_does_b89 hf q j hq).trans (hs q j hq)
theorem f_X12_does {F : Nat}  {r : Int} {σ' : mMem} {x1 x2 : Int} {σ : mMem} (hf : g_X12_does F x1 x2 σ = some (r, σ')) : ∀ q j, ¬ T_X12_does  q j → σ' q j = σ q j := by
  unfold g_X12_does at hf
  have hs : ∀ q j, ¬ T_X12_does  q j → σ q j = σ q j := fun _ _ _ => rfl
  refine f_let hf (fun y1 hf => ?_)
  refine f_gd hf (fun hf => ?_)
  refine f_ite hf (fun hf => ?_) (fun hf => ?_)
  · refine f_mob hf (fun r2 σ3 h1 hf => ?_)
    have hs := fun q j hq => (f_X12_steers h1 q j (by unfold T_X12_does at hq; unfold T_X12_steers; omega)).trans (hs q j hq)
    refine f_gd hf (fun hf => ?_)
    refine f_gd hf (fun hf => ?_)
    refine f_mem hf (fun q j hq => (mup_ne (by unfold T_X12_does at hq; omega)).trans (hs q j hq)) (fun σ4 hs hf => ?_)
    refine f_mob hf (fun r5 σ6 h1 hf => ?_)
    have hs := fun q j hq => (f_X12_isTold h1 q j (by unfold T_X12_isTold; exact id)).trans (hs q j hq)
    refine f_ite hf (fun hf => ?_) (fun hf => ?_)
    · exact fun q j hq => (f_X12_does_b52 hf q j hq).trans (hs q j hq)
    · refine f_mob hf (fun r7 σ8 h1 hf => ?_)
      have hs := fun q j hq => (f_X12_reckons h1 q j (by unfold T_X12_does at hq; unfold T_X12_reckons; omega)).trans (hs q j hq)
      refine f_ite hf (fun hf => ?_) (fun hf => ?_)
      · exact fun q j hq => (f_X12_does_b52 hf q j hq).trans (hs q j hq)
      · cases hf
        exact hs
  · cases hf
    exact hs
def T_X12_passes  (q j : Nat) : Prop := (q = 86 ∧ (j = 63 ∨ j = 64)) ∨ q = 110 ∨ q = 112 ∨ q = 113 ∨ q = 114 ∨ q = 115 ∨ q = 116 ∨ q = 117 ∨ q = 118 ∨ q = 119 ∨ q = 120
theorem f_X12_passes_b41 {F : Nat}  {r : Int} {σ' : mMem} {k12 : Int → Int → Int → mMem → mRs} (hk12 : ∀ (x1 x2 x3 : Int) (σ : mMem), k12 x1 x2 x3 σ = some (r, σ') → ∀ q j, ¬ T_X12_passes  q j → σ' q j = σ q j) {x1 x2 x3 : Int} {σ : mMem} (hf : g_X12_passes_b41 F k12 x1 x2 x3 σ = some (r, σ')) : ∀ q j, ¬ T_X12_passes  q j → σ' q j = σ q j := by
  unfold g_X12_passes_b41 at hf
  have hs : ∀ q j, ¬ T_X12_passes  q j → σ q j = σ q j := fun _ _ _ => rfl
  exact fun q j hq => (hk12 _ _ _ _ hf q j hq).trans (hs q j hq)
theorem f_X12_passes_h12 {F : Nat}  {r : Int} {σ' : mMem}   (n : Nat) : ∀ {x1 x2 x3 : Int} {σ : mMem} (_ : g_X12_passes_h12 F n x1 x2 x3 σ = some (r, σ')), ∀ q j, ¬ T_X12_passes  q j → σ' q j = σ q j := by
  induction n with
  | zero =>
    intro x1 x2 x3 σ hf
    unfold g_X12_passes_h12 at hf
    cases hf
  | succ n ih =>
    have hk12 : ∀ (x1 x2 x3 : Int) (σ : mMem), g_X12_passes_h12 F n x1 x2 x3 σ = some (r, σ') → ∀ q j, ¬ T_X12_passes  q j → σ' q j = σ q j := fun x1 x2 x3 σ hf => ih hf
    intro x1 x2 x3 σ hf
    unfold g_X12_passes_h12 at hf
    have hs : ∀ q j, ¬ T_X12_passes  q j → σ q j = σ q j := fun _ _ _ => rfl
    refine f_gd hf (fun hf => ?_)
    refine f_ite hf (fun hf => ?_) (fun hf => ?_)
    · refine f_gd hf (fun hf => ?_)
      refine f_gd hf (fun hf => ?_)
      refine f_mem hf (fun q j hq => (mup_ne (by unfold T_X12_passes at hq; omega)).trans (hs q j hq)) (fun σ103 hs hf => ?_)
      cases hf
      exact hs
    · refine f_ite hf (fun hf => ?_) (fun hf => ?_)
      · exact fun q j hq => (f_X12_passes_b41 hk12 hf q j hq).trans (hs q j hq)
      · refine f_mob hf (fun r104 σ105 h1 hf => ?_)
        have hs := fun q j hq => (f_X12_does h1 q j (by unfold T_X12_passes at hq; unfold T_X12_does; omega)).trans (hs q j hq)
        exact fun q j hq => (f_X12_passes_b41 hk12 hf q j hq).trans (hs q j hq)
theorem f_X12_passes {F : Nat}  {r : Int} {σ' : mMem} {x1 x2 : Int} {σ : mMem} (hf : g_X12_passes F x1 x2 σ = some (r, σ')) : ∀ q j, ¬ T_X12_passes  q j → σ' q j = σ q j := by
  unfold g_X12_passes at hf
  have hs : ∀ q j, ¬ T_X12_passes  q j → σ q j = σ q j := fun _ _ _ => rfl
  refine f_mem hf (fun q j hq => (mup_ne (by unfold T_X12_passes at hq; omega)).trans (hs q j hq)) (fun σ1 hs hf => ?_)
  refine f_mem hf (fun q j hq => (mup_ne (by unfold T_X12_passes at hq; omega)).trans (hs q j hq)) (fun σ2 hs hf => ?_)
  exact fun q j hq => (f_X12_passes_h12 _ hf q j hq).trans (hs q j hq)
def T_X12_bits  (q j : Nat) : Prop := False
theorem f_X12_bits_h4 {F : Nat}  {r : Int} {σ' : mMem}   (n : Nat) : ∀ {x1 x2 : Int} {σ : mMem} (_ : g_X12_bits_h4 F n x1 x2 σ = some (r, σ')), ∀ q j, ¬ T_X12_bits  q j → σ' q j = σ q j := by
  induction n with
  | zero =>
    intro x1 x2 σ hf
    unfold g_X12_bits_h4 at hf
    cases hf
  | succ n ih =>
    have hk4 : ∀ (x1 x2 : Int) (σ : mMem), g_X12_bits_h4 F n x1 x2 σ = some (r, σ') → ∀ q j, ¬ T_X12_bits  q j → σ' q j = σ q j := fun x1 x2 σ hf => ih hf
    intro x1 x2 σ hf
    unfold g_X12_bits_h4 at hf
    have hs : ∀ q j, ¬ T_X12_bits  q j → σ q j = σ q j := fun _ _ _ => rfl
    refine f_ite hf (fun hf => ?_) (fun hf => ?_)
    · cases hf
      exact hs
    · refine f_let hf (fun y101 hf => ?_)
      exact fun q j hq => (hk4 _ _ _ hf q j hq).trans (hs q j hq)
theorem f_X12_bits {F : Nat}  {r : Int} {σ' : mMem} {x0 : Int} {σ : mMem} (hf : g_X12_bits F x0 σ = some (r, σ')) : ∀ q j, ¬ T_X12_bits  q j → σ' q j = σ q j := by
  unfold g_X12_bits at hf
  have hs : ∀ q j, ¬ T_X12_bits  q j → σ q j = σ q j := fun _ _ _ => rfl
  exact fun q j hq => (f_X12_bits_h4 _ hf q j hq).trans (hs q j hq)
def T_X12_isBox  (q j : Nat) : Prop := False
theorem f_X12_isBox_b22 {F : Nat}  {r : Int} {σ' : mMem}   {t0 : Int} {σ : mMem} (hf : g_X12_isBox_b22 F t0 σ = some (r, σ')) : ∀ q j, ¬ T_X12_isBox  q j → σ' q j = σ q j := by
  unfold g_X12_isBox_b22 at hf
  have hs : ∀ q j, ¬ T_X12_isBox  q j → σ q j = σ q j := fun _ _ _ => rfl
  refine f_gd hf (fun hf => ?_)
  cases hf
  exact hs
theorem f_X12_isBox_b21 {F : Nat}  {r : Int} {σ' : mMem}   {σ : mMem} (hf : g_X12_isBox_b21 F  σ = some (r, σ')) : ∀ q j, ¬ T_X12_isBox  q j → σ' q j = σ q j := by
  unfold g_X12_isBox_b21 at hf
  have hs : ∀ q j, ¬ T_X12_isBox  q j → σ q j = σ q j := fun _ _ _ => rfl
  exact fun q j hq => (f_X12_isBox_b22 hf q j hq).trans (hs q j hq)
theorem f_X12_isBox {F : Nat}  {r : Int} {σ' : mMem} {x1 : Int} {σ : mMem} (hf : g_X12_isBox F x1 σ = some (r, σ')) : ∀ q j, ¬ T_X12_isBox  q j → σ' q j = σ q j := by
  unfold g_X12_isBox at hf
  have hs : ∀ q j, ¬ T_X12_isBox  q j → σ q j = σ q j := fun _ _ _ => rfl
  refine f_ite hf (fun hf => ?_) (fun hf => ?_)
  · exact fun q j hq => (f_X12_isBox_b21 hf q j hq).trans (hs q j hq)
  · refine f_gd hf (fun hf => ?_)
    refine f_ite hf (fun hf => ?_) (fun hf => ?_)
    · exact fun q j hq => (f_X12_isBox_b21 hf q j hq).trans (hs q j hq)
    · exact fun q j hq => (f_X12_isBox_b22 hf q j hq).trans (hs q j hq)
def T_X12_has  (q j : Nat) : Prop := False
theorem f_X12_has_b128 {F : Nat}  {r : Int} {σ' : mMem} {k92 : Int → Int → mMem → mRs} (hk92 : ∀ (x2 x3 : Int) (σ : mMem), k92 x2 x3 σ = some (r, σ') → ∀ q j, ¬ T_X12_has  q j → σ' q j = σ q j) {x3 t0 t1 : Int} {σ : mMem} (hf : g_X12_has_b128 F k92 x3 t0 t1 σ = some (r, σ')) : ∀ q j, ¬ T_X12_has  q j → σ' q j = σ q j := by
  unfold g_X12_has_b128 at hf
  have hs : ∀ q j, ¬ T_X12_has  q j → σ q j = σ q j := fun _ _ _ => rfl
  refine f_let hf (fun y405 hf => ?_)
  exact fun q j hq => (hk92 _ _ _ hf q j hq).trans (hs q j hq)
theorem f_X12_has_b127 {F : Nat}  {r : Int} {σ' : mMem} {k92 : Int → Int → mMem → mRs} (hk92 : ∀ (x2 x3 : Int) (σ : mMem), k92 x2 x3 σ = some (r, σ') → ∀ q j, ¬ T_X12_has  q j → σ' q j = σ q j) {x3 t0 : Int} {σ : mMem} (hf : g_X12_has_b127 F k92 x3 t0 σ = some (r, σ')) : ∀ q j, ¬ T_X12_has  q j → σ' q j = σ q j := by
  unfold g_X12_has_b127 at hf
  have hs : ∀ q j, ¬ T_X12_has  q j → σ q j = σ q j := fun _ _ _ => rfl
  exact fun q j hq => (f_X12_has_b128 hk92 hf q j hq).trans (hs q j hq)
theorem f_X12_has_h92 {F : Nat}  {r : Int} {σ' : mMem}   (n : Nat) : ∀ {x2 x3 : Int} {σ : mMem} (_ : g_X12_has_h92 F n x2 x3 σ = some (r, σ')), ∀ q j, ¬ T_X12_has  q j → σ' q j = σ q j := by
  induction n with
  | zero =>
    intro x2 x3 σ hf
    unfold g_X12_has_h92 at hf
    cases hf
  | succ n ih =>
    have hk92 : ∀ (x2 x3 : Int) (σ : mMem), g_X12_has_h92 F n x2 x3 σ = some (r, σ') → ∀ q j, ¬ T_X12_has  q j → σ' q j = σ q j := fun x2 x3 σ hf => ih hf
    intro x2 x3 σ hf
    unfold g_X12_has_h92 at hf
    have hs : ∀ q j, ¬ T_X12_has  q j → σ q j = σ q j := fun _ _ _ => rfl
    refine f_ite hf (fun hf => ?_) (fun hf => ?_)
    · cases hf
      exact hs
    · refine f_dv hf (fun hf => ?_)
      refine f_dv hf (fun hf => ?_)
      refine f_mob hf (fun r101 σ102 h1 hf => ?_)
      have hs := fun q j hq => (f_X12_isOn h1 q j (by unfold T_X12_isOn; exact id)).trans (hs q j hq)
      refine f_ite hf (fun hf => ?_) (fun hf => ?_)
      · exact fun q j hq => (f_X12_has_b127 hk92 hf q j hq).trans (hs q j hq)
      · refine f_mob hf (fun r103 σ104 h1 hf => ?_)
        have hs := fun q j hq => (f_X12_isBlack h1 q j (by unfold T_X12_isBlack; exact id)).trans (hs q j hq)
        refine f_ite hf (fun hf => ?_) (fun hf => ?_)
        · exact fun q j hq => (f_X12_has_b127 hk92 hf q j hq).trans (hs q j hq)
        · exact fun q j hq => (f_X12_has_b128 hk92 hf q j hq).trans (hs q j hq)
theorem f_X12_has_b182 {F : Nat}  {r : Int} {σ' : mMem} {k154 : Int → Int → mMem → mRs} (hk154 : ∀ (x2 x3 : Int) (σ : mMem), k154 x2 x3 σ = some (r, σ') → ∀ q j, ¬ T_X12_has  q j → σ' q j = σ q j) {x3 t0 t1 : Int} {σ : mMem} (hf : g_X12_has_b182 F k154 x3 t0 t1 σ = some (r, σ')) : ∀ q j, ¬ T_X12_has  q j → σ' q j = σ q j := by
  unfold g_X12_has_b182 at hf
  have hs : ∀ q j, ¬ T_X12_has  q j → σ q j = σ q j := fun _ _ _ => rfl
  refine f_let hf (fun y606 hf => ?_)
  exact fun q j hq => (hk154 _ _ _ hf q j hq).trans (hs q j hq)
theorem f_X12_has_h154 {F : Nat}  {r : Int} {σ' : mMem}   (n : Nat) : ∀ {x2 x3 : Int} {σ : mMem} (_ : g_X12_has_h154 F n x2 x3 σ = some (r, σ')), ∀ q j, ¬ T_X12_has  q j → σ' q j = σ q j := by
  induction n with
  | zero =>
    intro x2 x3 σ hf
    unfold g_X12_has_h154 at hf
    cases hf
  | succ n ih =>
    have hk154 : ∀ (x2 x3 : Int) (σ : mMem), g_X12_has_h154 F n x2 x3 σ = some (r, σ') → ∀ q j, ¬ T_X12_has  q j → σ' q j = σ q j := fun x2 x3 σ hf => ih hf
    intro x2 x3 σ hf
    unfold g_X12_has_h154 at hf
    have hs : ∀ q j, ¬ T_X12_has  q j → σ q j = σ q j := fun _ _ _ => rfl
    refine f_gd hf (fun hf => ?_)
    refine f_ite hf (fun hf => ?_) (fun hf => ?_)
    · cases hf
      exact hs
    · refine f_gd hf (fun hf => ?_)
      refine f_ite hf (fun hf => ?_) (fun hf => ?_)
      · exact fun q j hq => (f_X12_has_b182 hk154 hf q j hq).trans (hs q j hq)
      · exact fun q j hq => (f_X12_has_b182 hk154 hf q j hq).trans (hs q j hq)
theorem f_X12_has_b222 {F : Nat}  {r : Int} {σ' : mMem} {k194 : Int → Int → mMem → mRs} (hk194 : ∀ (x2 x3 : Int) (σ : mMem), k194 x2 x3 σ = some (r, σ') → ∀ q j, ¬ T_X12_has  q j → σ' q j = σ q j) {x3 t0 t1 : Int} {σ : mMem} (hf : g_X12_has_b222 F k194 x3 t0 t1 σ = some (r, σ')) : ∀ q j, ¬ T_X12_has  q j → σ' q j = σ q j := by
  unfold g_X12_has_b222 at hf
  have hs : ∀ q j, ¬ T_X12_has  q j → σ q j = σ q j := fun _ _ _ => rfl
  refine f_let hf (fun y707 hf => ?_)
  exact fun q j hq => (hk194 _ _ _ hf q j hq).trans (hs q j hq)
theorem f_X12_has_h194 {F : Nat}  {r : Int} {σ' : mMem}   (n : Nat) : ∀ {x2 x3 : Int} {σ : mMem} (_ : g_X12_has_h194 F n x2 x3 σ = some (r, σ')), ∀ q j, ¬ T_X12_has  q j → σ' q j = σ q j := by
  induction n with
  | zero =>
    intro x2 x3 σ hf
    unfold g_X12_has_h194 at hf
    cases hf
  | succ n ih =>
    have hk194 : ∀ (x2 x3 : Int) (σ : mMem), g_X12_has_h194 F n x2 x3 σ = some (r, σ') → ∀ q j, ¬ T_X12_has  q j → σ' q j = σ q j := fun x2 x3 σ hf => ih hf
    intro x2 x3 σ hf
    unfold g_X12_has_h194 at hf
    have hs : ∀ q j, ¬ T_X12_has  q j → σ q j = σ q j := fun _ _ _ => rfl
    refine f_gd hf (fun hf => ?_)
    refine f_ite hf (fun hf => ?_) (fun hf => ?_)
    · cases hf
      exact hs
    · refine f_gd hf (fun hf => ?_)
      refine f_ite hf (fun hf => ?_) (fun hf => ?_)
      · exact fun q j hq => (f_X12_has_b222 hk194 hf q j hq).trans (hs q j hq)
      · exact fun q j hq => (f_X12_has_b222 hk194 hf q j hq).trans (hs q j hq)
theorem f_X12_has {F : Nat}  {r : Int} {σ' : mMem} {x1 : Int} {σ : mMem} (hf : g_X12_has F x1 σ = some (r, σ')) : ∀ q j, ¬ T_X12_has  q j → σ' q j = σ q j := by
  unfold g_X12_has at hf
  have hs : ∀ q j, ¬ T_X12_has  q j → σ q j = σ q j := fun _ _ _ => rfl
  refine f_ite hf (fun hf => ?_) (fun hf => ?_)
  · refine f_gd hf (fun hf => ?_)
    cases hf
    exact hs
  refine f_ite hf (fun hf => ?_) (fun hf => ?_)
  · refine f_gd hf (fun hf => ?_)
    cases hf
    exact hs
  refine f_ite hf (fun hf => ?_) (fun hf => ?_)
  · refine f_gd hf (fun hf => ?_)
    cases hf
    exact hs
  refine f_ite hf (fun hf => ?_) (fun hf => ?_)
  · exact fun q j hq => (f_X12_has_h92 _ hf q j hq).trans (hs q j hq)
  refine f_ite hf (fun hf => ?_) (fun hf => ?_)
  · refine f_gd hf (fun hf => ?_)
    cases hf
    exact hs
  refine f_ite hf (fun hf => ?_) (fun hf => ?_)
  · refine f_gd hf (fun hf => ?_)
    cases hf
    exact hs
  refine f_ite hf (fun hf => ?_) (fun hf => ?_)
  · exact fun q j hq => (f_X12_has_h154 _ hf q j hq).trans (hs q j hq)
  refine f_ite hf (fun hf => ?_) (fun hf => ?_)
  · exact fun q j hq => (f_X12_has_h194 _ hf q j hq).trans (hs q j hq)
  refine f_ite hf (fun hf => ?_) (fun hf => ?_)
  · refine f_gd hf (fun hf => ?_)
    cases hf
    exact hs
  refine f_ite hf (fun hf => ?_) (fun hf => ?_)
  · cases hf
    exact hs
  refine f_ite hf (fun hf => ?_) (fun hf => ?_)
  · cases hf
    exact hs
  cases hf
  exact hs
def T_X12_letter  (q j : Nat) : Prop := False
theorem f_X12_letter_b17 {F : Nat}  {r : Int} {σ' : mMem}   {σ : mMem} (hf : g_X12_letter_b17 F  σ = some (r, σ')) : ∀ q j, ¬ T_X12_letter  q j → σ' q j = σ q j := by
  unfold g_X12_letter_b17 at hf
  have hs : ∀ q j, ¬ T_X12_letter  q j → σ q j = σ q j := fun _ _ _ => rfl
  cases hf
  exact hs
theorem f_X12_letter_b91 {F : Nat}  {r : Int} {σ' : mMem}   {t0 : Int} {σ : mMem} (hf : g_X12_letter_b91 F t0 σ = some (r, σ')) : ∀ q j, ¬ T_X12_letter  q j → σ' q j = σ q j := by
  unfold g_X12_letter_b91 at hf
  have hs : ∀ q j, ¬ T_X12_letter  q j → σ q j = σ q j := fun _ _ _ => rfl
  cases hf
  exact hs
theorem f_X12_letter_h40 {F : Nat}  {r : Int} {σ' : mMem}   (n : Nat) : ∀ {x2 x3 x5 x6 : Int} {σ : mMem} (_ : g_X12_letter_h40 F n x2 x3 x5 x6 σ = some (r, σ')), ∀ q j, ¬ T_X12_letter  q j → σ' q j = σ q j := by
  induction n with
  | zero =>
    intro x2 x3 x5 x6 σ hf
    unfold g_X12_letter_h40 at hf
    cases hf
  | succ n ih =>
    have hk40 : ∀ (x2 x3 x5 x6 : Int) (σ : mMem), g_X12_letter_h40 F n x2 x3 x5 x6 σ = some (r, σ') → ∀ q j, ¬ T_X12_letter  q j → σ' q j = σ q j := fun x2 x3 x5 x6 σ hf => ih hf
    intro x2 x3 x5 x6 σ hf
    unfold g_X12_letter_h40 at hf
    have hs : ∀ q j, ¬ T_X12_letter  q j → σ q j = σ q j := fun _ _ _ => rfl
    refine f_ite hf (fun hf => ?_) (fun hf => ?_)
    · refine f_ite hf (fun hf => ?_) (fun hf => ?_)
      · exact fun q j hq => (f_X12_letter_b91 hf q j hq).trans (hs q j hq)
      · exact fun q j hq => (f_X12_letter_b91 hf q j hq).trans (hs q j hq)
    · refine f_let hf (fun y206 hf => ?_)
      exact fun q j hq => (hk40 _ _ _ _ _ hf q j hq).trans (hs q j hq)
theorem f_X12_letter {F : Nat}  {r : Int} {σ' : mMem} {x1 x2 : Int} {σ : mMem} (hf : g_X12_letter F x1 x2 σ = some (r, σ')) : ∀ q j, ¬ T_X12_letter  q j → σ' q j = σ q j := by
  unfold g_X12_letter at hf
  have hs : ∀ q j, ¬ T_X12_letter  q j → σ q j = σ q j := fun _ _ _ => rfl
  refine f_mob hf (fun r1 σ2 h1 hf => ?_)
  have hs := fun q j hq => (f_X12_isBox h1 q j (by unfold T_X12_isBox; exact id)).trans (hs q j hq)
  refine f_ite hf (fun hf => ?_) (fun hf => ?_)
  · exact fun q j hq => (f_X12_letter_b17 hf q j hq).trans (hs q j hq)
  · refine f_mob hf (fun r3 σ4 h1 hf => ?_)
    have hs := fun q j hq => (f_X12_is h1 q j (by unfold T_X12_is; exact id)).trans (hs q j hq)
    refine f_ite hf (fun hf => ?_) (fun hf => ?_)
    · refine f_gd hf (fun hf => ?_)
      refine f_let hf (fun y5 hf => ?_)
      exact fun q j hq => (f_X12_letter_h40 _ hf q j hq).trans (hs q j hq)
    · exact fun q j hq => (f_X12_letter_b17 hf q j hq).trans (hs q j hq)
def T_X12_cell  (q j : Nat) : Prop := False
theorem f_X12_cell_b80 {F : Nat}  {r : Int} {σ' : mMem}   {t0 : Int} {σ : mMem} (hf : g_X12_cell_b80 F t0 σ = some (r, σ')) : ∀ q j, ¬ T_X12_cell  q j → σ' q j = σ q j := by
  unfold g_X12_cell_b80 at hf
  have hs : ∀ q j, ¬ T_X12_cell  q j → σ q j = σ q j := fun _ _ _ => rfl
  cases hf
  exact hs
theorem f_X12_cell {F : Nat}  {r : Int} {σ' : mMem} {x1 x2 x3 : Int} {σ : mMem} (hf : g_X12_cell F x1 x2 x3 σ = some (r, σ')) : ∀ q j, ¬ T_X12_cell  q j → σ' q j = σ q j := by
  unfold g_X12_cell at hf
  have hs : ∀ q j, ¬ T_X12_cell  q j → σ q j = σ q j := fun _ _ _ => rfl
  refine f_mob hf (fun r1 σ2 h1 hf => ?_)
  have hs := fun q j hq => (f_X12_isOn h1 q j (by unfold T_X12_isOn; exact id)).trans (hs q j hq)
  refine f_ite hf (fun hf => ?_) (fun hf => ?_)
  · refine f_let hf (fun y3 hf => ?_)
    refine f_ite hf (fun hf => ?_) (fun hf => ?_)
    · refine f_ite hf (fun hf => ?_) (fun hf => ?_)
      · refine f_ite hf (fun hf => ?_) (fun hf => ?_)
        · exact fun q j hq => (f_X12_cell_b80 hf q j hq).trans (hs q j hq)
        · refine f_mob hf (fun r4 σ5 h1 hf => ?_)
          have hs := fun q j hq => (f_X12_who h1 q j (by unfold T_X12_who; exact id)).trans (hs q j hq)
          exact fun q j hq => (f_X12_cell_b80 hf q j hq).trans (hs q j hq)
      · refine f_mob hf (fun r6 σ7 h1 hf => ?_)
        have hs := fun q j hq => (f_X12_isBlack h1 q j (by unfold T_X12_isBlack; exact id)).trans (hs q j hq)
        refine f_ite hf (fun hf => ?_) (fun hf => ?_)
        · exact fun q j hq => (f_X12_cell_b80 hf q j hq).trans (hs q j hq)
        · exact fun q j hq => (f_X12_cell_b80 hf q j hq).trans (hs q j hq)
    · refine f_gd hf (fun hf => ?_)
      exact fun q j hq => (f_X12_cell_b80 hf q j hq).trans (hs q j hq)
  · cases hf
    exact hs
def T_X12_box  (q j : Nat) : Prop := False
theorem f_X12_box {F : Nat}  {r : Int} {σ' : mMem} {x1 x2 : Int} {σ : mMem} (hf : g_X12_box F x1 x2 σ = some (r, σ')) : ∀ q j, ¬ T_X12_box  q j → σ' q j = σ q j := by
  unfold g_X12_box at hf
  have hs : ∀ q j, ¬ T_X12_box  q j → σ q j = σ q j := fun _ _ _ => rfl
  refine f_mob hf (fun r1 σ2 h1 hf => ?_)
  have hs := fun q j hq => (f_X12_isBox h1 q j (by unfold T_X12_isBox; exact id)).trans (hs q j hq)
  refine f_ite hf (fun hf => ?_) (fun hf => ?_)
  · refine f_ite hf (fun hf => ?_) (fun hf => ?_)
    · refine f_gd hf (fun hf => ?_)
      refine f_dv hf (fun hf => ?_)
      cases hf
      exact hs
    refine f_ite hf (fun hf => ?_) (fun hf => ?_)
    · refine f_gd hf (fun hf => ?_)
      refine f_dv hf (fun hf => ?_)
      cases hf
      exact hs
    refine f_ite hf (fun hf => ?_) (fun hf => ?_)
    · refine f_gd hf (fun hf => ?_)
      cases hf
      exact hs
    refine f_ite hf (fun hf => ?_) (fun hf => ?_)
    · refine f_gd hf (fun hf => ?_)
      cases hf
      exact hs
    refine f_ite hf (fun hf => ?_) (fun hf => ?_)
    · refine f_gd hf (fun hf => ?_)
      cases hf
      exact hs
    refine f_ite hf (fun hf => ?_) (fun hf => ?_)
    · refine f_gd hf (fun hf => ?_)
      cases hf
      exact hs
    refine f_ite hf (fun hf => ?_) (fun hf => ?_)
    · refine f_gd hf (fun hf => ?_)
      cases hf
      exact hs
    refine f_ite hf (fun hf => ?_) (fun hf => ?_)
    · refine f_gd hf (fun hf => ?_)
      cases hf
      exact hs
    cases hf
    exact hs
  · cases hf
    exact hs
def T_X12_sees  (q j : Nat) : Prop := False
theorem f_X12_sees_b28 {F : Nat}  {r : Int} {σ' : mMem}   {t0 : Int} {σ : mMem} (hf : g_X12_sees_b28 F t0 σ = some (r, σ')) : ∀ q j, ¬ T_X12_sees  q j → σ' q j = σ q j := by
  unfold g_X12_sees_b28 at hf
  have hs : ∀ q j, ¬ T_X12_sees  q j → σ q j = σ q j := fun _ _ _ => rfl
  cases hf
  exact hs
theorem f_X12_sees_b27 {F : Nat}  {r : Int} {σ' : mMem}   {σ : mMem} (hf : g_X12_sees_b27 F  σ = some (r, σ')) : ∀ q j, ¬ T_X12_sees  q j → σ' q j = σ q j := by
  unfold g_X12_sees_b27 at hf
  have hs : ∀ q j, ¬ T_X12_sees  q j → σ q j = σ q j := fun _ _ _ => rfl
  exact fun q j hq => (f_X12_sees_b28 hf q j hq).trans (hs q j hq)
theorem f_X12_sees {F : Nat}  {r : Int} {σ' : mMem} {x1 x2 : Int} {σ : mMem} (hf : g_X12_sees F x1 x2 σ = some (r, σ')) : ∀ q j, ¬ T_X12_sees  q j → σ' q j = σ q j := by
  unfold g_X12_sees at hf
  have hs : ∀ q j, ¬ T_X12_sees  q j → σ q j = σ q j := fun _ _ _ => rfl
  refine f_mob hf (fun r1 σ2 h1 hf => ?_)
  have hs := fun q j hq => (f_X12_isBox h1 q j (by unfold T_X12_isBox; exact id)).trans (hs q j hq)
  refine f_ite hf (fun hf => ?_) (fun hf => ?_)
  · exact fun q j hq => (f_X12_sees_b27 hf q j hq).trans (hs q j hq)
  · refine f_mob hf (fun r3 σ4 h1 hf => ?_)
    have hs := fun q j hq => (f_X12_is h1 q j (by unfold T_X12_is; exact id)).trans (hs q j hq)
    refine f_ite hf (fun hf => ?_) (fun hf => ?_)
    · exact fun q j hq => (f_X12_sees_b27 hf q j hq).trans (hs q j hq)
    · refine f_mob hf (fun r5 σ6 h1 hf => ?_)
      have hs := fun q j hq => (f_X12_eye h1 q j (by unfold T_X12_eye; exact id)).trans (hs q j hq)
      exact fun q j hq => (f_X12_sees_b28 hf q j hq).trans (hs q j hq)
def T_X12_isAhead  (q j : Nat) : Prop := False
theorem f_X12_isAhead_b28 {F : Nat}  {r : Int} {σ' : mMem}   {t0 : Int} {σ : mMem} (hf : g_X12_isAhead_b28 F t0 σ = some (r, σ')) : ∀ q j, ¬ T_X12_isAhead  q j → σ' q j = σ q j := by
  unfold g_X12_isAhead_b28 at hf
  have hs : ∀ q j, ¬ T_X12_isAhead  q j → σ q j = σ q j := fun _ _ _ => rfl
  refine f_gd hf (fun hf => ?_)
  cases hf
  exact hs
theorem f_X12_isAhead_b27 {F : Nat}  {r : Int} {σ' : mMem}   {σ : mMem} (hf : g_X12_isAhead_b27 F  σ = some (r, σ')) : ∀ q j, ¬ T_X12_isAhead  q j → σ' q j = σ q j := by
  unfold g_X12_isAhead_b27 at hf
  have hs : ∀ q j, ¬ T_X12_isAhead  q j → σ q j = σ q j := fun _ _ _ => rfl
  exact fun q j hq => (f_X12_isAhead_b28 hf q j hq).trans (hs q j hq)
theorem f_X12_isAhead {F : Nat}  {r : Int} {σ' : mMem} {x1 x2 x3 : Int} {σ : mMem} (hf : g_X12_isAhead F x1 x2 x3 σ = some (r, σ')) : ∀ q j, ¬ T_X12_isAhead  q j → σ' q j = σ q j := by
  unfold g_X12_isAhead at hf
  have hs : ∀ q j, ¬ T_X12_isAhead  q j → σ q j = σ q j := fun _ _ _ => rfl
  refine f_mob hf (fun r1 σ2 h1 hf => ?_)
  have hs := fun q j hq => (f_X12_is h1 q j (by unfold T_X12_is; exact id)).trans (hs q j hq)
  refine f_ite hf (fun hf => ?_) (fun hf => ?_)
  · exact fun q j hq => (f_X12_isAhead_b27 hf q j hq).trans (hs q j hq)
  · refine f_gd hf (fun hf => ?_)
    refine f_ite hf (fun hf => ?_) (fun hf => ?_)
    · exact fun q j hq => (f_X12_isAhead_b27 hf q j hq).trans (hs q j hq)
    · exact fun q j hq => (f_X12_isAhead_b28 hf q j hq).trans (hs q j hq)
def T_X12_later  (q j : Nat) : Prop := (q = 86 ∧ (j = 63 ∨ j = 64)) ∨ q = 110 ∨ q = 111 ∨ q = 112 ∨ q = 113 ∨ q = 114 ∨ q = 115 ∨ q = 116 ∨ q = 117 ∨ q = 118 ∨ q = 119 ∨ q = 120
theorem f_X12_later_b28 {F : Nat}  {r : Int} {σ' : mMem}   {σ : mMem} (hf : g_X12_later_b28 F  σ = some (r, σ')) : ∀ q j, ¬ T_X12_later  q j → σ' q j = σ q j := by
  unfold g_X12_later_b28 at hf
  have hs : ∀ q j, ¬ T_X12_later  q j → σ q j = σ q j := fun _ _ _ => rfl
  cases hf
  exact hs
theorem f_X12_later_b147 {F : Nat}  {r : Int} {σ' : mMem}   {t0 : Int} {σ : mMem} (hf : g_X12_later_b147 F t0 σ = some (r, σ')) : ∀ q j, ¬ T_X12_later  q j → σ' q j = σ q j := by
  unfold g_X12_later_b147 at hf
  have hs : ∀ q j, ¬ T_X12_later  q j → σ q j = σ q j := fun _ _ _ => rfl
  cases hf
  exact hs
theorem f_X12_later_h42 {F : Nat}  {r : Int} {σ' : mMem}   (n : Nat) : ∀ {x1 x2 x3 x4 x5 : Int} {σ : mMem} (_ : g_X12_later_h42 F n x1 x2 x3 x4 x5 σ = some (r, σ')), ∀ q j, ¬ T_X12_later  q j → σ' q j = σ q j := by
  induction n with
  | zero =>
    intro x1 x2 x3 x4 x5 σ hf
    unfold g_X12_later_h42 at hf
    cases hf
  | succ n ih =>
    have hk42 : ∀ (x1 x2 x3 x4 x5 : Int) (σ : mMem), g_X12_later_h42 F n x1 x2 x3 x4 x5 σ = some (r, σ') → ∀ q j, ¬ T_X12_later  q j → σ' q j = σ q j := fun x1 x2 x3 x4 x5 σ hf => ih hf
    intro x1 x2 x3 x4 x5 σ hf
    unfold g_X12_later_h42 at hf
    have hs : ∀ q j, ¬ T_X12_later  q j → σ q j = σ q j := fun _ _ _ => rfl
    refine f_ite hf (fun hf => ?_) (fun hf => ?_)
    · refine f_let hf (fun y209 hf => ?_)
      refine f_ite hf (fun hf => ?_) (fun hf => ?_)
      · refine f_ite hf (fun hf => ?_) (fun hf => ?_)
        · refine f_ite hf (fun hf => ?_) (fun hf => ?_)
          · refine f_ite hf (fun hf => ?_) (fun hf => ?_)
            · exact fun q j hq => (f_X12_later_b147 hf q j hq).trans (hs q j hq)
            · refine f_gd hf (fun hf => ?_)
              exact fun q j hq => (f_X12_later_b147 hf q j hq).trans (hs q j hq)
          · refine f_gd hf (fun hf => ?_)
            exact fun q j hq => (f_X12_later_b147 hf q j hq).trans (hs q j hq)
        · refine f_gd hf (fun hf => ?_)
          refine f_dv hf (fun hf => ?_)
          exact fun q j hq => (f_X12_later_b147 hf q j hq).trans (hs q j hq)
      · refine f_gd hf (fun hf => ?_)
        refine f_dv hf (fun hf => ?_)
        exact fun q j hq => (f_X12_later_b147 hf q j hq).trans (hs q j hq)
    · refine f_mob hf (fun r210 σ211 h1 hf => ?_)
      have hs := fun q j hq => (f_X12_passes h1 q j (by unfold T_X12_later at hq; unfold T_X12_passes; omega)).trans (hs q j hq)
      refine f_let hf (fun y212 hf => ?_)
      exact fun q j hq => (hk42 _ _ _ _ _ _ hf q j hq).trans (hs q j hq)
theorem f_X12_later {F : Nat}  {r : Int} {σ' : mMem} {x1 x2 x3 : Int} {σ : mMem} (hf : g_X12_later F x1 x2 x3 σ = some (r, σ')) : ∀ q j, ¬ T_X12_later  q j → σ' q j = σ q j := by
  unfold g_X12_later at hf
  have hs : ∀ q j, ¬ T_X12_later  q j → σ q j = σ q j := fun _ _ _ => rfl
  refine f_mob hf (fun r1 σ2 h1 hf => ?_)
  have hs := fun q j hq => (f_X12_isBox h1 q j (by unfold T_X12_isBox; exact id)).trans (hs q j hq)
  refine f_ite hf (fun hf => ?_) (fun hf => ?_)
  · exact fun q j hq => (f_X12_later_b28 hf q j hq).trans (hs q j hq)
  · refine f_mob hf (fun r3 σ4 h1 hf => ?_)
    have hs := fun q j hq => (f_X12_isAhead h1 q j (by unfold T_X12_isAhead; exact id)).trans (hs q j hq)
    refine f_ite hf (fun hf => ?_) (fun hf => ?_)
    · exact fun q j hq => (f_X12_later_b28 hf q j hq).trans (hs q j hq)
    · refine f_mob hf (fun r5 σ6 h1 hf => ?_)
      have hs := fun q j hq => (f_X12_is h1 q j (by unfold T_X12_is; exact id)).trans (hs q j hq)
      refine f_ite hf (fun hf => ?_) (fun hf => ?_)
      · refine f_mob hf (fun r7 σ8 h1 hf => ?_)
        have hs := fun q j hq => (f_X12_copies h1 q j (by unfold T_X12_later at hq; unfold T_X12_copies; omega)).trans (hs q j hq)
        exact fun q j hq => (f_X12_later_h42 _ hf q j hq).trans (hs q j hq)
      · exact fun q j hq => (f_X12_later_b28 hf q j hq).trans (hs q j hq)
def T_X12_round  (q j : Nat) : Prop := (q = 86 ∧ (j = 63 ∨ j = 64)) ∨ q = 110 ∨ q = 111 ∨ q = 112 ∨ q = 113 ∨ q = 114 ∨ q = 115 ∨ q = 116 ∨ q = 117 ∨ q = 118 ∨ q = 119 ∨ q = 120
theorem f_X12_round_b75 {F : Nat}  {r : Int} {σ' : mMem} {k18 : Int → Int → mMem → mRs} (hk18 : ∀ (x1 x2 : Int) (σ : mMem), k18 x1 x2 σ = some (r, σ') → ∀ q j, ¬ T_X12_round  q j → σ' q j = σ q j) {x1 x2 : Int} {σ : mMem} (hf : g_X12_round_b75 F k18 x1 x2 σ = some (r, σ')) : ∀ q j, ¬ T_X12_round  q j → σ' q j = σ q j := by
  unfold g_X12_round_b75 at hf
  have hs : ∀ q j, ¬ T_X12_round  q j → σ q j = σ q j := fun _ _ _ => rfl
  exact fun q j hq => (hk18 _ _ _ hf q j hq).trans (hs q j hq)
theorem f_X12_round_h18 {F : Nat}  {r : Int} {σ' : mMem}   (n : Nat) : ∀ {x1 x2 : Int} {σ : mMem} (_ : g_X12_round_h18 F n x1 x2 σ = some (r, σ')), ∀ q j, ¬ T_X12_round  q j → σ' q j = σ q j := by
  induction n with
  | zero =>
    intro x1 x2 σ hf
    unfold g_X12_round_h18 at hf
    cases hf
  | succ n ih =>
    have hk18 : ∀ (x1 x2 : Int) (σ : mMem), g_X12_round_h18 F n x1 x2 σ = some (r, σ') → ∀ q j, ¬ T_X12_round  q j → σ' q j = σ q j := fun x1 x2 σ hf => ih hf
    intro x1 x2 σ hf
    unfold g_X12_round_h18 at hf
    have hs : ∀ q j, ¬ T_X12_round  q j → σ q j = σ q j := fun _ _ _ => rfl
    refine f_mob hf (fun r105 σ106 h1 hf => ?_)
    have hs := fun q j hq => (f_X12_isAhead h1 q j (by unfold T_X12_isAhead; exact id)).trans (hs q j hq)
    refine f_ite hf (fun hf => ?_) (fun hf => ?_)
    · cases hf
      exact hs
    · refine f_mob hf (fun r107 σ108 h1 hf => ?_)
      have hs := fun q j hq => (f_X12_passes h1 q j (by unfold T_X12_round at hq; unfold T_X12_passes; omega)).trans (hs q j hq)
      refine f_gd hf (fun hf => ?_)
      refine f_gd hf (fun hf => ?_)
      refine f_ite hf (fun hf => ?_) (fun hf => ?_)
      · exact fun q j hq => (f_X12_round_b75 hk18 hf q j hq).trans (hs q j hq)
      · refine f_gd hf (fun hf => ?_)
        refine f_gd hf (fun hf => ?_)
        refine f_ite hf (fun hf => ?_) (fun hf => ?_)
        · exact fun q j hq => (f_X12_round_b75 hk18 hf q j hq).trans (hs q j hq)
        · cases hf
          exact hs
theorem f_X12_round {F : Nat}  {r : Int} {σ' : mMem} {x1 : Int} {σ : mMem} (hf : g_X12_round F x1 σ = some (r, σ')) : ∀ q j, ¬ T_X12_round  q j → σ' q j = σ q j := by
  unfold g_X12_round at hf
  have hs : ∀ q j, ¬ T_X12_round  q j → σ q j = σ q j := fun _ _ _ => rfl
  refine f_mob hf (fun r1 σ2 h1 hf => ?_)
  have hs := fun q j hq => (f_X12_isBox h1 q j (by unfold T_X12_isBox; exact id)).trans (hs q j hq)
  refine f_ite hf (fun hf => ?_) (fun hf => ?_)
  · refine f_mob hf (fun r3 σ4 h1 hf => ?_)
    have hs := fun q j hq => (f_X12_copies h1 q j (by unfold T_X12_round at hq; unfold T_X12_copies; omega)).trans (hs q j hq)
    exact fun q j hq => (f_X12_round_h18 _ hf q j hq).trans (hs q j hq)
  · cases hf
    exact hs
def T_X12_loses  (q j : Nat) : Prop := (q = 86 ∧ (j = 63 ∨ j = 64)) ∨ q = 110 ∨ q = 111 ∨ q = 112 ∨ q = 113 ∨ q = 114 ∨ q = 115 ∨ q = 116 ∨ q = 117 ∨ q = 118 ∨ q = 119 ∨ q = 120
theorem f_X12_loses_b18 {F : Nat}  {r : Int} {σ' : mMem}   {σ : mMem} (hf : g_X12_loses_b18 F  σ = some (r, σ')) : ∀ q j, ¬ T_X12_loses  q j → σ' q j = σ q j := by
  unfold g_X12_loses_b18 at hf
  have hs : ∀ q j, ¬ T_X12_loses  q j → σ q j = σ q j := fun _ _ _ => rfl
  cases hf
  exact hs
theorem f_X12_loses_h28 {F : Nat}  {r : Int} {σ' : mMem}   (n : Nat) : ∀ {x1 x2 x3 : Int} {σ : mMem} (_ : g_X12_loses_h28 F n x1 x2 x3 σ = some (r, σ')), ∀ q j, ¬ T_X12_loses  q j → σ' q j = σ q j := by
  induction n with
  | zero =>
    intro x1 x2 x3 σ hf
    unfold g_X12_loses_h28 at hf
    cases hf
  | succ n ih =>
    have hk28 : ∀ (x1 x2 x3 : Int) (σ : mMem), g_X12_loses_h28 F n x1 x2 x3 σ = some (r, σ') → ∀ q j, ¬ T_X12_loses  q j → σ' q j = σ q j := fun x1 x2 x3 σ hf => ih hf
    intro x1 x2 x3 σ hf
    unfold g_X12_loses_h28 at hf
    have hs : ∀ q j, ¬ T_X12_loses  q j → σ q j = σ q j := fun _ _ _ => rfl
    refine f_mob hf (fun r207 σ208 h1 hf => ?_)
    have hs := fun q j hq => (f_X12_isAhead h1 q j (by unfold T_X12_isAhead; exact id)).trans (hs q j hq)
    refine f_ite hf (fun hf => ?_) (fun hf => ?_)
    · cases hf
      exact hs
    · refine f_gd hf (fun hf => ?_)
      refine f_ite hf (fun hf => ?_) (fun hf => ?_)
      · refine f_mob hf (fun r209 σ210 h1 hf => ?_)
        have hs := fun q j hq => (f_X12_passes h1 q j (by unfold T_X12_loses at hq; unfold T_X12_passes; omega)).trans (hs q j hq)
        exact fun q j hq => (hk28 _ _ _ _ hf q j hq).trans (hs q j hq)
      · cases hf
        exact hs
theorem f_X12_loses {F : Nat}  {r : Int} {σ' : mMem} {x1 x2 : Int} {σ : mMem} (hf : g_X12_loses F x1 x2 σ = some (r, σ')) : ∀ q j, ¬ T_X12_loses  q j → σ' q j = σ q j := by
  unfold g_X12_loses at hf
  have hs : ∀ q j, ¬ T_X12_loses  q j → σ q j = σ q j := fun _ _ _ => rfl
  refine f_mob hf (fun r1 σ2 h1 hf => ?_)
  have hs := fun q j hq => (f_X12_isBox h1 q j (by unfold T_X12_isBox; exact id)).trans (hs q j hq)
  refine f_ite hf (fun hf => ?_) (fun hf => ?_)
  · exact fun q j hq => (f_X12_loses_b18 hf q j hq).trans (hs q j hq)
  · refine f_mob hf (fun r3 σ4 h1 hf => ?_)
    have hs := fun q j hq => (f_X12_is h1 q j (by unfold T_X12_is; exact id)).trans (hs q j hq)
    refine f_ite hf (fun hf => ?_) (fun hf => ?_)
    · refine f_mob hf (fun r5 σ6 h1 hf => ?_)
      have hs := fun q j hq => (f_X12_copies h1 q j (by unfold T_X12_loses at hq; unfold T_X12_copies; omega)).trans (hs q j hq)
      exact fun q j hq => (f_X12_loses_h28 _ hf q j hq).trans (hs q j hq)
    · exact fun q j hq => (f_X12_loses_b18 hf q j hq).trans (hs q j hq)
def T_X12_jam  (q j : Nat) : Prop := (q = 86 ∧ (j = 63 ∨ j = 64)) ∨ q = 110 ∨ q = 111 ∨ q = 112 ∨ q = 113 ∨ q = 114 ∨ q = 115 ∨ q = 116 ∨ q = 117 ∨ q = 118 ∨ q = 119 ∨ q = 120
theorem f_X12_jam_b43 {F : Nat}  {r : Int} {σ' : mMem} {k8 : Int → mMem → mRs} (hk8 : ∀ (x1 : Int) (σ : mMem), k8 x1 σ = some (r, σ') → ∀ q j, ¬ T_X12_jam  q j → σ' q j = σ q j) {x1 : Int} {σ : mMem} (hf : g_X12_jam_b43 F k8 x1 σ = some (r, σ')) : ∀ q j, ¬ T_X12_jam  q j → σ' q j = σ q j := by
  unfold g_X12_jam_b43 at hf
  have hs : ∀ q j, ¬ T_X12_jam  q j → σ q j = σ q j := fun _ _ _ => rfl
  exact fun q j hq => (hk8 _ _ hf q j hq).trans (hs q j hq)
theorem f_X12_jam_h8 {F : Nat}  {r : Int} {σ' : mMem}   (n : Nat) : ∀ {x1 : Int} {σ : mMem} (_ : g_X12_jam_h8 F n x1 σ = some (r, σ')), ∀ q j, ¬ T_X12_jam  q j → σ' q j = σ q j := by
  induction n with
  | zero =>
    intro x1 σ hf
    unfold g_X12_jam_h8 at hf
    cases hf
  | succ n ih =>
    have hk8 : ∀ (x1 : Int) (σ : mMem), g_X12_jam_h8 F n x1 σ = some (r, σ') → ∀ q j, ¬ T_X12_jam  q j → σ' q j = σ q j := fun x1 σ hf => ih hf
    intro x1 σ hf
    unfold g_X12_jam_h8 at hf
    have hs : ∀ q j, ¬ T_X12_jam  q j → σ q j = σ q j := fun _ _ _ => rfl
    refine f_mob hf (fun r103 σ104 h1 hf => ?_)
    have hs := fun q j hq => (f_X12_isAhead h1 q j (by unfold T_X12_isAhead; exact id)).trans (hs q j hq)
    refine f_ite hf (fun hf => ?_) (fun hf => ?_)
    · cases hf
      exact hs
    · refine f_mob hf (fun r105 σ106 h1 hf => ?_)
      have hs := fun q j hq => (f_X12_passes h1 q j (by unfold T_X12_jam at hq; unfold T_X12_passes; omega)).trans (hs q j hq)
      refine f_ite hf (fun hf => ?_) (fun hf => ?_)
      · exact fun q j hq => (f_X12_jam_b43 hk8 hf q j hq).trans (hs q j hq)
      · refine f_ite hf (fun hf => ?_) (fun hf => ?_)
        · exact fun q j hq => (f_X12_jam_b43 hk8 hf q j hq).trans (hs q j hq)
        · cases hf
          exact hs
theorem f_X12_jam {F : Nat}  {r : Int} {σ' : mMem} {σ : mMem} (hf : g_X12_jam F σ = some (r, σ')) : ∀ q j, ¬ T_X12_jam  q j → σ' q j = σ q j := by
  unfold g_X12_jam at hf
  have hs : ∀ q j, ¬ T_X12_jam  q j → σ q j = σ q j := fun _ _ _ => rfl
  refine f_mob hf (fun r1 σ2 h1 hf => ?_)
  have hs := fun q j hq => (f_X12_copies h1 q j (by unfold T_X12_jam at hq; unfold T_X12_copies; omega)).trans (hs q j hq)
  exact fun q j hq => (f_X12_jam_h8 _ hf q j hq).trans (hs q j hq)
def T_X12_away  (q j : Nat) : Prop := False
theorem f_X12_away_b40 {F : Nat}  {r : Int} {σ' : mMem}   {t0 t1 : Int} {σ : mMem} (hf : g_X12_away_b40 F t0 t1 σ = some (r, σ')) : ∀ q j, ¬ T_X12_away  q j → σ' q j = σ q j := by
  unfold g_X12_away_b40 at hf
  have hs : ∀ q j, ¬ T_X12_away  q j → σ q j = σ q j := fun _ _ _ => rfl
  cases hf
  exact hs
theorem f_X12_away_b30 {F : Nat}  {r : Int} {σ' : mMem}   {x3 t0 : Int} {σ : mMem} (hf : g_X12_away_b30 F x3 t0 σ = some (r, σ')) : ∀ q j, ¬ T_X12_away  q j → σ' q j = σ q j := by
  unfold g_X12_away_b30 at hf
  have hs : ∀ q j, ¬ T_X12_away  q j → σ q j = σ q j := fun _ _ _ => rfl
  refine f_ite hf (fun hf => ?_) (fun hf => ?_)
  · exact fun q j hq => (f_X12_away_b40 hf q j hq).trans (hs q j hq)
  · exact fun q j hq => (f_X12_away_b40 hf q j hq).trans (hs q j hq)
theorem f_X12_away {F : Nat}  {r : Int} {σ' : mMem} {x0 x1 : Int} {σ : mMem} (hf : g_X12_away F x0 x1 σ = some (r, σ')) : ∀ q j, ¬ T_X12_away  q j → σ' q j = σ q j := by
  unfold g_X12_away at hf
  have hs : ∀ q j, ¬ T_X12_away  q j → σ q j = σ q j := fun _ _ _ => rfl
  refine f_dv hf (fun hf => ?_)
  refine f_dv hf (fun hf => ?_)
  refine f_let hf (fun y1 hf => ?_)
  refine f_dv hf (fun hf => ?_)
  refine f_dv hf (fun hf => ?_)
  refine f_let hf (fun y2 hf => ?_)
  refine f_ite hf (fun hf => ?_) (fun hf => ?_)
  · exact fun q j hq => (f_X12_away_b30 hf q j hq).trans (hs q j hq)
  · exact fun q j hq => (f_X12_away_b30 hf q j hq).trans (hs q j hq)
def T_X12_gap  (q j : Nat) : Prop := (q = 86 ∧ (j = 63 ∨ j = 64)) ∨ q = 110 ∨ q = 111 ∨ q = 112 ∨ q = 113 ∨ q = 114 ∨ q = 115 ∨ q = 116 ∨ q = 117 ∨ q = 118 ∨ q = 119 ∨ q = 120
theorem f_X12_gap_b32 {F : Nat}  {r : Int} {σ' : mMem}   {σ : mMem} (hf : g_X12_gap_b32 F  σ = some (r, σ')) : ∀ q j, ¬ T_X12_gap  q j → σ' q j = σ q j := by
  unfold g_X12_gap_b32 at hf
  have hs : ∀ q j, ¬ T_X12_gap  q j → σ q j = σ q j := fun _ _ _ => rfl
  cases hf
  exact hs
theorem f_X12_gap_b110 {F : Nat}  {r : Int} {σ' : mMem} {k60 : Int → Int → Int → Int → Int → mMem → mRs} (hk60 : ∀ (x1 x2 x3 x4 x5 : Int) (σ : mMem), k60 x1 x2 x3 x4 x5 σ = some (r, σ') → ∀ q j, ¬ T_X12_gap  q j → σ' q j = σ q j) {x1 x2 x3 x5 t0 : Int} {σ : mMem} (hf : g_X12_gap_b110 F k60 x1 x2 x3 x5 t0 σ = some (r, σ')) : ∀ q j, ¬ T_X12_gap  q j → σ' q j = σ q j := by
  unfold g_X12_gap_b110 at hf
  have hs : ∀ q j, ¬ T_X12_gap  q j → σ q j = σ q j := fun _ _ _ => rfl
  exact fun q j hq => (hk60 _ _ _ _ _ _ hf q j hq).trans (hs q j hq)
theorem f_X12_gap_h60 {F : Nat}  {r : Int} {σ' : mMem}   (n : Nat) : ∀ {x1 x2 x3 x4 x5 : Int} {σ : mMem} (_ : g_X12_gap_h60 F n x1 x2 x3 x4 x5 σ = some (r, σ')), ∀ q j, ¬ T_X12_gap  q j → σ' q j = σ q j := by
  induction n with
  | zero =>
    intro x1 x2 x3 x4 x5 σ hf
    unfold g_X12_gap_h60 at hf
    cases hf
  | succ n ih =>
    have hk60 : ∀ (x1 x2 x3 x4 x5 : Int) (σ : mMem), g_X12_gap_h60 F n x1 x2 x3 x4 x5 σ = some (r, σ') → ∀ q j, ¬ T_X12_gap  q j → σ' q j = σ q j := fun x1 x2 x3 x4 x5 σ hf => ih hf
    intro x1 x2 x3 x4 x5 σ hf
    unfold g_X12_gap_h60 at hf
    have hs : ∀ q j, ¬ T_X12_gap  q j → σ q j = σ q j := fun _ _ _ => rfl
    refine f_ite hf (fun hf => ?_) (fun hf => ?_)
    · cases hf
      exact hs
    · refine f_mob hf (fun r211 σ212 h1 hf => ?_)
      have hs := fun q j hq => (f_X12_passes h1 q j (by unfold T_X12_gap at hq; unfold T_X12_passes; omega)).trans (hs q j hq)
      refine f_gd hf (fun hf => ?_)
      refine f_gd hf (fun hf => ?_)
      refine f_mob hf (fun r213 σ214 h1 hf => ?_)
      have hs := fun q j hq => (f_X12_away h1 q j (by unfold T_X12_away; exact id)).trans (hs q j hq)
      refine f_ite hf (fun hf => ?_) (fun hf => ?_)
      · exact fun q j hq => (f_X12_gap_b110 hk60 hf q j hq).trans (hs q j hq)
      · exact fun q j hq => (f_X12_gap_b110 hk60 hf q j hq).trans (hs q j hq)
theorem f_X12_gap {F : Nat}  {r : Int} {σ' : mMem} {x1 x2 x3 : Int} {σ : mMem} (hf : g_X12_gap F x1 x2 x3 σ = some (r, σ')) : ∀ q j, ¬ T_X12_gap  q j → σ' q j = σ q j := by
  unfold g_X12_gap at hf
  have hs : ∀ q j, ¬ T_X12_gap  q j → σ q j = σ q j := fun _ _ _ => rfl
  refine f_mob hf (fun r1 σ2 h1 hf => ?_)
  have hs := fun q j hq => (f_X12_isBox h1 q j (by unfold T_X12_isBox; exact id)).trans (hs q j hq)
  refine f_ite hf (fun hf => ?_) (fun hf => ?_)
  · exact fun q j hq => (f_X12_gap_b32 hf q j hq).trans (hs q j hq)
  · refine f_mob hf (fun r3 σ4 h1 hf => ?_)
    have hs := fun q j hq => (f_X12_isBox h1 q j (by unfold T_X12_isBox; exact id)).trans (hs q j hq)
    refine f_ite hf (fun hf => ?_) (fun hf => ?_)
    · exact fun q j hq => (f_X12_gap_b32 hf q j hq).trans (hs q j hq)
    · refine f_ite hf (fun hf => ?_) (fun hf => ?_)
      · exact fun q j hq => (f_X12_gap_b32 hf q j hq).trans (hs q j hq)
      · refine f_mob hf (fun r5 σ6 h1 hf => ?_)
        have hs := fun q j hq => (f_X12_isAhead h1 q j (by unfold T_X12_isAhead; exact id)).trans (hs q j hq)
        refine f_ite hf (fun hf => ?_) (fun hf => ?_)
        · refine f_mob hf (fun r7 σ8 h1 hf => ?_)
          have hs := fun q j hq => (f_X12_copies h1 q j (by unfold T_X12_gap at hq; unfold T_X12_copies; omega)).trans (hs q j hq)
          refine f_gd hf (fun hf => ?_)
          refine f_gd hf (fun hf => ?_)
          refine f_mob hf (fun r9 σ10 h1 hf => ?_)
          have hs := fun q j hq => (f_X12_away h1 q j (by unfold T_X12_away; exact id)).trans (hs q j hq)
          exact fun q j hq => (f_X12_gap_h60 _ hf q j hq).trans (hs q j hq)
        · exact fun q j hq => (f_X12_gap_b32 hf q j hq).trans (hs q j hq)
def T_X12_tuned  (q j : Nat) : Prop := (q = 86 ∧ (j = 57 ∨ j = 58 ∨ j = 59 ∨ j = 63 ∨ j = 64)) ∨ q = 110 ∨ q = 111 ∨ q = 112 ∨ q = 113 ∨ q = 114 ∨ q = 115 ∨ q = 116 ∨ q = 117 ∨ q = 118 ∨ q = 119 ∨ q = 120
theorem f_X12_tuned_b28 {F : Nat}  {r : Int} {σ' : mMem}   {σ : mMem} (hf : g_X12_tuned_b28 F  σ = some (r, σ')) : ∀ q j, ¬ T_X12_tuned  q j → σ' q j = σ q j := by
  unfold g_X12_tuned_b28 at hf
  have hs : ∀ q j, ¬ T_X12_tuned  q j → σ q j = σ q j := fun _ _ _ => rfl
  cases hf
  exact hs
theorem f_X12_tuned_b179 {F : Nat}  {r : Int} {σ' : mMem}   {t0 : Int} {σ : mMem} (hf : g_X12_tuned_b179 F t0 σ = some (r, σ')) : ∀ q j, ¬ T_X12_tuned  q j → σ' q j = σ q j := by
  unfold g_X12_tuned_b179 at hf
  have hs : ∀ q j, ¬ T_X12_tuned  q j → σ q j = σ q j := fun _ _ _ => rfl
  cases hf
  exact hs
theorem f_X12_tuned_b143 {F : Nat}  {r : Int} {σ' : mMem} {k44 : Int → Int → Int → Int → Int → Int → mMem → mRs} (hk44 : ∀ (x1 x2 x3 x4 x5 x6 : Int) (σ : mMem), k44 x1 x2 x3 x4 x5 x6 σ = some (r, σ') → ∀ q j, ¬ T_X12_tuned  q j → σ' q j = σ q j) {x1 x2 x3 x4 x5 x6 : Int} {σ : mMem} (hf : g_X12_tuned_b143 F k44 x1 x2 x3 x4 x5 x6 σ = some (r, σ')) : ∀ q j, ¬ T_X12_tuned  q j → σ' q j = σ q j := by
  unfold g_X12_tuned_b143 at hf
  have hs : ∀ q j, ¬ T_X12_tuned  q j → σ q j = σ q j := fun _ _ _ => rfl
  exact fun q j hq => (hk44 _ _ _ _ _ _ _ hf q j hq).trans (hs q j hq)
theorem f_X12_tuned_b116 {F : Nat}  {r : Int} {σ' : mMem} {k44 : Int → Int → Int → Int → Int → Int → mMem → mRs} {k79 : Int → Int → Int → Int → Int → Int → Int → Int → mMem → mRs} (hk44 : ∀ (x1 x2 x3 x4 x5 x6 : Int) (σ : mMem), k44 x1 x2 x3 x4 x5 x6 σ = some (r, σ') → ∀ q j, ¬ T_X12_tuned  q j → σ' q j = σ q j) (hk79 : ∀ (x1 x2 x3 x4 x5 x6 x7 x8 : Int) (σ : mMem), k79 x1 x2 x3 x4 x5 x6 x7 x8 σ = some (r, σ') → ∀ q j, ¬ T_X12_tuned  q j → σ' q j = σ q j) {x1 x2 x3 x4 x5 x6 x8 t0 t1 : Int} {σ : mMem} (hf : g_X12_tuned_b116 F k44 k79 x1 x2 x3 x4 x5 x6 x8 t0 t1 σ = some (r, σ')) : ∀ q j, ¬ T_X12_tuned  q j → σ' q j = σ q j := by
  unfold g_X12_tuned_b116 at hf
  have hs : ∀ q j, ¬ T_X12_tuned  q j → σ q j = σ q j := fun _ _ _ => rfl
  refine f_let hf (fun y617 hf => ?_)
  exact fun q j hq => (hk79 _ _ _ _ _ _ _ _ _ hf q j hq).trans (hs q j hq)
theorem f_X12_tuned_h79 {F : Nat}  {r : Int} {σ' : mMem} {k44 : Int → Int → Int → Int → Int → Int → mMem → mRs} (hk44 : ∀ (x1 x2 x3 x4 x5 x6 : Int) (σ : mMem), k44 x1 x2 x3 x4 x5 x6 σ = some (r, σ') → ∀ q j, ¬ T_X12_tuned  q j → σ' q j = σ q j) (n : Nat) : ∀ {x1 x2 x3 x4 x5 x6 x7 x8 : Int} {σ : mMem} (_ : g_X12_tuned_h79 F k44 n x1 x2 x3 x4 x5 x6 x7 x8 σ = some (r, σ')), ∀ q j, ¬ T_X12_tuned  q j → σ' q j = σ q j := by
  induction n with
  | zero =>
    intro x1 x2 x3 x4 x5 x6 x7 x8 σ hf
    unfold g_X12_tuned_h79 at hf
    cases hf
  | succ n ih =>
    have hk79 : ∀ (x1 x2 x3 x4 x5 x6 x7 x8 : Int) (σ : mMem), g_X12_tuned_h79 F k44 n x1 x2 x3 x4 x5 x6 x7 x8 σ = some (r, σ') → ∀ q j, ¬ T_X12_tuned  q j → σ' q j = σ q j := fun x1 x2 x3 x4 x5 x6 x7 x8 σ hf => ih hf
    intro x1 x2 x3 x4 x5 x6 x7 x8 σ hf
    unfold g_X12_tuned_h79 at hf
    have hs : ∀ q j, ¬ T_X12_tuned  q j → σ q j = σ q j := fun _ _ _ => rfl
    refine f_ite hf (fun hf => ?_) (fun hf => ?_)
    · refine f_ite hf (fun hf => ?_) (fun hf => ?_)
      · exact fun q j hq => (f_X12_tuned_b143 hk44 hf q j hq).trans (hs q j hq)
      · exact fun q j hq => (f_X12_tuned_b143 hk44 hf q j hq).trans (hs q j hq)
    · refine f_mob hf (fun r413 σ414 h1 hf => ?_)
      have hs := fun q j hq => (f_X12_passes h1 q j (by unfold T_X12_tuned at hq; unfold T_X12_passes; omega)).trans (hs q j hq)
      refine f_gd hf (fun hf => ?_)
      refine f_mob hf (fun r415 σ416 h1 hf => ?_)
      have hs := fun q j hq => (f_X12_isBlack h1 q j (by unfold T_X12_isBlack; exact id)).trans (hs q j hq)
      refine f_ite hf (fun hf => ?_) (fun hf => ?_)
      · exact fun q j hq => (f_X12_tuned_b116 hk44 hk79 hf q j hq).trans (hs q j hq)
      · exact fun q j hq => (f_X12_tuned_b116 hk44 hk79 hf q j hq).trans (hs q j hq)
theorem f_X12_tuned_h44 {F : Nat}  {r : Int} {σ' : mMem}   (n : Nat) : ∀ {x1 x2 x3 x4 x5 x6 : Int} {σ : mMem} (_ : g_X12_tuned_h44 F n x1 x2 x3 x4 x5 x6 σ = some (r, σ')), ∀ q j, ¬ T_X12_tuned  q j → σ' q j = σ q j := by
  induction n with
  | zero =>
    intro x1 x2 x3 x4 x5 x6 σ hf
    unfold g_X12_tuned_h44 at hf
    cases hf
  | succ n ih =>
    have hk44 : ∀ (x1 x2 x3 x4 x5 x6 : Int) (σ : mMem), g_X12_tuned_h44 F n x1 x2 x3 x4 x5 x6 σ = some (r, σ') → ∀ q j, ¬ T_X12_tuned  q j → σ' q j = σ q j := fun x1 x2 x3 x4 x5 x6 σ hf => ih hf
    intro x1 x2 x3 x4 x5 x6 σ hf
    unfold g_X12_tuned_h44 at hf
    have hs : ∀ q j, ¬ T_X12_tuned  q j → σ q j = σ q j := fun _ _ _ => rfl
    refine f_ite hf (fun hf => ?_) (fun hf => ?_)
    · refine f_mem hf (fun q j hq => (mup_ne (by unfold T_X12_tuned at hq; omega)).trans (hs q j hq)) (fun σ208 hs hf => ?_)
      refine f_ite hf (fun hf => ?_) (fun hf => ?_)
      · refine f_ite hf (fun hf => ?_) (fun hf => ?_)
        · exact fun q j hq => (f_X12_tuned_b179 hf q j hq).trans (hs q j hq)
        · refine f_dv hf (fun hf => ?_)
          exact fun q j hq => (f_X12_tuned_b179 hf q j hq).trans (hs q j hq)
      · refine f_dv hf (fun hf => ?_)
        exact fun q j hq => (f_X12_tuned_b179 hf q j hq).trans (hs q j hq)
    · refine f_dv hf (fun hf => ?_)
      refine f_mem hf (fun q j hq => (mup_ne (by unfold T_X12_tuned at hq; omega)).trans (hs q j hq)) (fun σ209 hs hf => ?_)
      refine f_dv hf (fun hf => ?_)
      refine f_mem hf (fun q j hq => (mup_ne (by unfold T_X12_tuned at hq; omega)).trans (hs q j hq)) (fun σ210 hs hf => ?_)
      refine f_mob hf (fun r211 σ212 h1 hf => ?_)
      have hs := fun q j hq => (f_X12_copies h1 q j (by unfold T_X12_tuned at hq; unfold T_X12_copies; omega)).trans (hs q j hq)
      exact fun q j hq => (f_X12_tuned_h79 hk44 _ hf q j hq).trans (hs q j hq)
theorem f_X12_tuned {F : Nat}  {r : Int} {σ' : mMem} {x1 x2 x3 : Int} {σ : mMem} (hf : g_X12_tuned F x1 x2 x3 σ = some (r, σ')) : ∀ q j, ¬ T_X12_tuned  q j → σ' q j = σ q j := by
  unfold g_X12_tuned at hf
  have hs : ∀ q j, ¬ T_X12_tuned  q j → σ q j = σ q j := fun _ _ _ => rfl
  refine f_mob hf (fun r1 σ2 h1 hf => ?_)
  have hs := fun q j hq => (f_X12_isBox h1 q j (by unfold T_X12_isBox; exact id)).trans (hs q j hq)
  refine f_ite hf (fun hf => ?_) (fun hf => ?_)
  · exact fun q j hq => (f_X12_tuned_b28 hf q j hq).trans (hs q j hq)
  · refine f_mob hf (fun r3 σ4 h1 hf => ?_)
    have hs := fun q j hq => (f_X12_isAhead h1 q j (by unfold T_X12_isAhead; exact id)).trans (hs q j hq)
    refine f_ite hf (fun hf => ?_) (fun hf => ?_)
    · exact fun q j hq => (f_X12_tuned_b28 hf q j hq).trans (hs q j hq)
    · refine f_mob hf (fun r5 σ6 h1 hf => ?_)
      have hs := fun q j hq => (f_X12_is h1 q j (by unfold T_X12_is; exact id)).trans (hs q j hq)
      refine f_ite hf (fun hf => ?_) (fun hf => ?_)
      · refine f_mem hf (fun q j hq => (mup_ne (by unfold T_X12_tuned at hq; omega)).trans (hs q j hq)) (fun σ7 hs hf => ?_)
        exact fun q j hq => (f_X12_tuned_h44 _ hf q j hq).trans (hs q j hq)
      · exact fun q j hq => (f_X12_tuned_b28 hf q j hq).trans (hs q j hq)
def T_X12_moves  (q j : Nat) : Prop := q = 121
theorem f_X12_moves_b25 {F : Nat}  {r : Int} {σ' : mMem}   {σ : mMem} (hf : g_X12_moves_b25 F  σ = some (r, σ')) : ∀ q j, ¬ T_X12_moves  q j → σ' q j = σ q j := by
  unfold g_X12_moves_b25 at hf
  have hs : ∀ q j, ¬ T_X12_moves  q j → σ q j = σ q j := fun _ _ _ => rfl
  cases hf
  exact hs
theorem f_X12_moves {F : Nat}  {r : Int} {σ' : mMem} {x1 x2 x3 : Int} {σ : mMem} (hf : g_X12_moves F x1 x2 x3 σ = some (r, σ')) : ∀ q j, ¬ T_X12_moves  q j → σ' q j = σ q j := by
  unfold g_X12_moves at hf
  have hs : ∀ q j, ¬ T_X12_moves  q j → σ q j = σ q j := fun _ _ _ => rfl
  refine f_gd hf (fun hf => ?_)
  refine f_ite hf (fun hf => ?_) (fun hf => ?_)
  · exact fun q j hq => (f_X12_moves_b25 hf q j hq).trans (hs q j hq)
  · refine f_gd hf (fun hf => ?_)
    refine f_mem hf (fun q j hq => (mup_ne (by unfold T_X12_moves at hq; omega)).trans (hs q j hq)) (fun σ1 hs hf => ?_)
    exact fun q j hq => (f_X12_moves_b25 hf q j hq).trans (hs q j hq)
def T_X12_found  (q j : Nat) : Prop := q = 121
theorem f_X12_found_b206 {F : Nat}  {r : Int} {σ' : mMem} {k51 : Int → Int → mMem → mRs} {k98 : Int → Int → Int → mMem → mRs} (hk51 : ∀ (x1 x2 : Int) (σ : mMem), k51 x1 x2 σ = some (r, σ') → ∀ q j, ¬ T_X12_found  q j → σ' q j = σ q j) (hk98 : ∀ (x1 x2 x3 : Int) (σ : mMem), k98 x1 x2 x3 σ = some (r, σ') → ∀ q j, ¬ T_X12_found  q j → σ' q j = σ q j) {x1 x2 x3 : Int} {σ : mMem} (hf : g_X12_found_b206 F k51 k98 x1 x2 x3 σ = some (r, σ')) : ∀ q j, ¬ T_X12_found  q j → σ' q j = σ q j := by
  unfold g_X12_found_b206 at hf
  have hs : ∀ q j, ¬ T_X12_found  q j → σ q j = σ q j := fun _ _ _ => rfl
  exact fun q j hq => (hk98 _ _ _ _ hf q j hq).trans (hs q j hq)
theorem f_X12_found_b194 {F : Nat}  {r : Int} {σ' : mMem} {k51 : Int → Int → mMem → mRs} {k98 : Int → Int → Int → mMem → mRs} (hk51 : ∀ (x1 x2 : Int) (σ : mMem), k51 x1 x2 σ = some (r, σ') → ∀ q j, ¬ T_X12_found  q j → σ' q j = σ q j) (hk98 : ∀ (x1 x2 x3 : Int) (σ : mMem), k98 x1 x2 x3 σ = some (r, σ') → ∀ q j, ¬ T_X12_found  q j → σ' q j = σ q j) {x1 x2 x3 x4 : Int} {σ : mMem} (hf : g_X12_found_b194 F k51 k98 x1 x2 x3 x4 σ = some (r, σ')) : ∀ q j, ¬ T_X12_found  q j → σ' q j = σ q j := by
  unfold g_X12_found_b194 at hf
  have hs : ∀ q j, ¬ T_X12_found  q j → σ q j = σ q j := fun _ _ _ => rfl
  refine f_dv hf (fun hf => ?_)
  refine f_mob hf (fun r718 σ719 h1 hf => ?_)
  have hs := fun q j hq => (f_X12_moves h1 q j (by unfold T_X12_found at hq; unfold T_X12_moves; omega)).trans (hs q j hq)
  exact fun q j hq => (f_X12_found_b206 hk51 hk98 hf q j hq).trans (hs q j hq)
theorem f_X12_found_h98 {F : Nat}  {r : Int} {σ' : mMem} {k51 : Int → Int → mMem → mRs} (hk51 : ∀ (x1 x2 : Int) (σ : mMem), k51 x1 x2 σ = some (r, σ') → ∀ q j, ¬ T_X12_found  q j → σ' q j = σ q j) (n : Nat) : ∀ {x1 x2 x3 : Int} {σ : mMem} (_ : g_X12_found_h98 F k51 n x1 x2 x3 σ = some (r, σ')), ∀ q j, ¬ T_X12_found  q j → σ' q j = σ q j := by
  induction n with
  | zero =>
    intro x1 x2 x3 σ hf
    unfold g_X12_found_h98 at hf
    cases hf
  | succ n ih =>
    have hk98 : ∀ (x1 x2 x3 : Int) (σ : mMem), g_X12_found_h98 F k51 n x1 x2 x3 σ = some (r, σ') → ∀ q j, ¬ T_X12_found  q j → σ' q j = σ q j := fun x1 x2 x3 σ hf => ih hf
    intro x1 x2 x3 σ hf
    unfold g_X12_found_h98 at hf
    have hs : ∀ q j, ¬ T_X12_found  q j → σ q j = σ q j := fun _ _ _ => rfl
    refine f_ite hf (fun hf => ?_) (fun hf => ?_)
    · exact fun q j hq => (hk51 _ _ _ hf q j hq).trans (hs q j hq)
    · refine f_gd hf (fun hf => ?_)
      refine f_ite hf (fun hf => ?_) (fun hf => ?_)
      · refine f_dv hf (fun hf => ?_)
        refine f_dv hf (fun hf => ?_)
        refine f_mob hf (fun r408 σ409 h1 hf => ?_)
        have hs := fun q j hq => (f_X12_off h1 q j (by unfold T_X12_off; exact id)).trans (hs q j hq)
        refine f_dv hf (fun hf => ?_)
        refine f_dv hf (fun hf => ?_)
        refine f_dv hf (fun hf => ?_)
        refine f_mob hf (fun r410 σ411 h1 hf => ?_)
        have hs := fun q j hq => (f_X12_moves h1 q j (by unfold T_X12_found at hq; unfold T_X12_moves; omega)).trans (hs q j hq)
        refine f_dv hf (fun hf => ?_)
        refine f_dv hf (fun hf => ?_)
        refine f_dv hf (fun hf => ?_)
        refine f_mob hf (fun r412 σ413 h1 hf => ?_)
        have hs := fun q j hq => (f_X12_moves h1 q j (by unfold T_X12_found at hq; unfold T_X12_moves; omega)).trans (hs q j hq)
        refine f_ite hf (fun hf => ?_) (fun hf => ?_)
        · exact fun q j hq => (f_X12_found_b206 hk51 hk98 hf q j hq).trans (hs q j hq)
        · refine f_mob hf (fun r414 σ415 h1 hf => ?_)
          have hs := fun q j hq => (f_X12_who h1 q j (by unfold T_X12_who; exact id)).trans (hs q j hq)
          refine f_ite hf (fun hf => ?_) (fun hf => ?_)
          · exact fun q j hq => (f_X12_found_b194 hk51 hk98 hf q j hq).trans (hs q j hq)
          · refine f_mob hf (fun r416 σ417 h1 hf => ?_)
            have hs := fun q j hq => (f_X12_who h1 q j (by unfold T_X12_who; exact id)).trans (hs q j hq)
            refine f_ite hf (fun hf => ?_) (fun hf => ?_)
            · exact fun q j hq => (f_X12_found_b206 hk51 hk98 hf q j hq).trans (hs q j hq)
            · exact fun q j hq => (f_X12_found_b194 hk51 hk98 hf q j hq).trans (hs q j hq)
      · exact fun q j hq => (f_X12_found_b206 hk51 hk98 hf q j hq).trans (hs q j hq)
theorem f_X12_found_b90 {F : Nat}  {r : Int} {σ' : mMem} {k51 : Int → Int → mMem → mRs} {k60 : Int → Int → Int → mMem → mRs} (hk51 : ∀ (x1 x2 : Int) (σ : mMem), k51 x1 x2 σ = some (r, σ') → ∀ q j, ¬ T_X12_found  q j → σ' q j = σ q j) (hk60 : ∀ (x1 x2 x3 : Int) (σ : mMem), k60 x1 x2 x3 σ = some (r, σ') → ∀ q j, ¬ T_X12_found  q j → σ' q j = σ q j) {x1 x2 x3 : Int} {σ : mMem} (hf : g_X12_found_b90 F k51 k60 x1 x2 x3 σ = some (r, σ')) : ∀ q j, ¬ T_X12_found  q j → σ' q j = σ q j := by
  unfold g_X12_found_b90 at hf
  have hs : ∀ q j, ¬ T_X12_found  q j → σ q j = σ q j := fun _ _ _ => rfl
  exact fun q j hq => (hk60 _ _ _ _ hf q j hq).trans (hs q j hq)
theorem f_X12_found_h60 {F : Nat}  {r : Int} {σ' : mMem} {k51 : Int → Int → mMem → mRs} (hk51 : ∀ (x1 x2 : Int) (σ : mMem), k51 x1 x2 σ = some (r, σ') → ∀ q j, ¬ T_X12_found  q j → σ' q j = σ q j) (n : Nat) : ∀ {x1 x2 x3 : Int} {σ : mMem} (_ : g_X12_found_h60 F k51 n x1 x2 x3 σ = some (r, σ')), ∀ q j, ¬ T_X12_found  q j → σ' q j = σ q j := by
  induction n with
  | zero =>
    intro x1 x2 x3 σ hf
    unfold g_X12_found_h60 at hf
    cases hf
  | succ n ih =>
    have hk60 : ∀ (x1 x2 x3 : Int) (σ : mMem), g_X12_found_h60 F k51 n x1 x2 x3 σ = some (r, σ') → ∀ q j, ¬ T_X12_found  q j → σ' q j = σ q j := fun x1 x2 x3 σ hf => ih hf
    intro x1 x2 x3 σ hf
    unfold g_X12_found_h60 at hf
    have hs : ∀ q j, ¬ T_X12_found  q j → σ q j = σ q j := fun _ _ _ => rfl
    refine f_ite hf (fun hf => ?_) (fun hf => ?_)
    · exact fun q j hq => (f_X12_found_h98 hk51 _ hf q j hq).trans (hs q j hq)
    · refine f_gd hf (fun hf => ?_)
      refine f_ite hf (fun hf => ?_) (fun hf => ?_)
      · exact fun q j hq => (f_X12_found_b90 hk51 hk60 hf q j hq).trans (hs q j hq)
      · refine f_dv hf (fun hf => ?_)
        refine f_mob hf (fun r306 σ307 h1 hf => ?_)
        have hs := fun q j hq => (f_X12_isBlack h1 q j (by unfold T_X12_isBlack; exact id)).trans (hs q j hq)
        refine f_ite hf (fun hf => ?_) (fun hf => ?_)
        · exact fun q j hq => (f_X12_found_b90 hk51 hk60 hf q j hq).trans (hs q j hq)
        · cases hf
          exact hs
theorem f_X12_found_h51 {F : Nat}  {r : Int} {σ' : mMem}   (n : Nat) : ∀ {x1 x2 : Int} {σ : mMem} (_ : g_X12_found_h51 F n x1 x2 σ = some (r, σ')), ∀ q j, ¬ T_X12_found  q j → σ' q j = σ q j := by
  induction n with
  | zero =>
    intro x1 x2 σ hf
    unfold g_X12_found_h51 at hf
    cases hf
  | succ n ih =>
    have hk51 : ∀ (x1 x2 : Int) (σ : mMem), g_X12_found_h51 F n x1 x2 σ = some (r, σ') → ∀ q j, ¬ T_X12_found  q j → σ' q j = σ q j := fun x1 x2 σ hf => ih hf
    intro x1 x2 σ hf
    unfold g_X12_found_h51 at hf
    have hs : ∀ q j, ¬ T_X12_found  q j → σ q j = σ q j := fun _ _ _ => rfl
    refine f_ite hf (fun hf => ?_) (fun hf => ?_)
    · cases hf
      exact hs
    · exact fun q j hq => (f_X12_found_h60 hk51 _ hf q j hq).trans (hs q j hq)
theorem f_X12_found_h12 {F : Nat}  {r : Int} {σ' : mMem}   (n : Nat) : ∀ {x1 x2 : Int} {σ : mMem} (_ : g_X12_found_h12 F n x1 x2 σ = some (r, σ')), ∀ q j, ¬ T_X12_found  q j → σ' q j = σ q j := by
  induction n with
  | zero =>
    intro x1 x2 σ hf
    unfold g_X12_found_h12 at hf
    cases hf
  | succ n ih =>
    have hk12 : ∀ (x1 x2 : Int) (σ : mMem), g_X12_found_h12 F n x1 x2 σ = some (r, σ') → ∀ q j, ¬ T_X12_found  q j → σ' q j = σ q j := fun x1 x2 σ hf => ih hf
    intro x1 x2 σ hf
    unfold g_X12_found_h12 at hf
    have hs : ∀ q j, ¬ T_X12_found  q j → σ q j = σ q j := fun _ _ _ => rfl
    refine f_ite hf (fun hf => ?_) (fun hf => ?_)
    · refine f_gd hf (fun hf => ?_)
      refine f_gd hf (fun hf => ?_)
      refine f_mob hf (fun r103 σ104 h1 hf => ?_)
      have hs := fun q j hq => (f_X12_moves h1 q j (by unfold T_X12_found at hq; unfold T_X12_moves; omega)).trans (hs q j hq)
      exact fun q j hq => (f_X12_found_h51 _ hf q j hq).trans (hs q j hq)
    · refine f_gd hf (fun hf => ?_)
      refine f_mem hf (fun q j hq => (mup_ne (by unfold T_X12_found at hq; omega)).trans (hs q j hq)) (fun σ105 hs hf => ?_)
      exact fun q j hq => (hk12 _ _ _ hf q j hq).trans (hs q j hq)
theorem f_X12_found {F : Nat}  {r : Int} {σ' : mMem} {x1 : Int} {σ : mMem} (hf : g_X12_found F x1 σ = some (r, σ')) : ∀ q j, ¬ T_X12_found  q j → σ' q j = σ q j := by
  unfold g_X12_found at hf
  have hs : ∀ q j, ¬ T_X12_found  q j → σ q j = σ q j := fun _ _ _ => rfl
  refine f_mob hf (fun r1 σ2 h1 hf => ?_)
  have hs := fun q j hq => (f_X12_isBox h1 q j (by unfold T_X12_isBox; exact id)).trans (hs q j hq)
  refine f_ite hf (fun hf => ?_) (fun hf => ?_)
  · exact fun q j hq => (f_X12_found_h12 _ hf q j hq).trans (hs q j hq)
  · cases hf
    exact hs
def T_X12_spaced  (q j : Nat) : Prop := (q = 86 ∧ (j = 62 ∨ j = 63 ∨ j = 64)) ∨ q = 110 ∨ q = 111 ∨ q = 112 ∨ q = 113 ∨ q = 114 ∨ q = 115 ∨ q = 116 ∨ q = 117 ∨ q = 118 ∨ q = 119 ∨ q = 120
theorem f_X12_spaced_b96 {F : Nat}  {r : Int} {σ' : mMem}   {x2 : Int} {σ : mMem} (hf : g_X12_spaced_b96 F x2 σ = some (r, σ')) : ∀ q j, ¬ T_X12_spaced  q j → σ' q j = σ q j := by
  unfold g_X12_spaced_b96 at hf
  have hs : ∀ q j, ¬ T_X12_spaced  q j → σ q j = σ q j := fun _ _ _ => rfl
  refine f_mem hf (fun q j hq => (mup_ne (by unfold T_X12_spaced at hq; omega)).trans (hs q j hq)) (fun σ206 hs hf => ?_)
  cases hf
  exact hs
theorem f_X12_spaced_b90 {F : Nat}  {r : Int} {σ' : mMem} {k17 : Int → Int → Int → mMem → mRs} (hk17 : ∀ (x1 x2 x3 : Int) (σ : mMem), k17 x1 x2 x3 σ = some (r, σ') → ∀ q j, ¬ T_X12_spaced  q j → σ' q j = σ q j) {x1 x2 x3 : Int} {σ : mMem} (hf : g_X12_spaced_b90 F k17 x1 x2 x3 σ = some (r, σ')) : ∀ q j, ¬ T_X12_spaced  q j → σ' q j = σ q j := by
  unfold g_X12_spaced_b90 at hf
  have hs : ∀ q j, ¬ T_X12_spaced  q j → σ q j = σ q j := fun _ _ _ => rfl
  exact fun q j hq => (hk17 _ _ _ _ hf q j hq).trans (hs q j hq)
theorem f_X12_spaced_b83 {F : Nat}  {r : Int} {σ' : mMem} {k17 : Int → Int → Int → mMem → mRs} (hk17 : ∀ (x1 x2 x3 : Int) (σ : mMem), k17 x1 x2 x3 σ = some (r, σ') → ∀ q j, ¬ T_X12_spaced  q j → σ' q j = σ q j) {x1 x2 x3 x4 : Int} {σ : mMem} (hf : g_X12_spaced_b83 F k17 x1 x2 x3 x4 σ = some (r, σ')) : ∀ q j, ¬ T_X12_spaced  q j → σ' q j = σ q j := by
  unfold g_X12_spaced_b83 at hf
  have hs : ∀ q j, ¬ T_X12_spaced  q j → σ q j = σ q j := fun _ _ _ => rfl
  refine f_ite hf (fun hf => ?_) (fun hf => ?_)
  · exact fun q j hq => (f_X12_spaced_b90 hk17 hf q j hq).trans (hs q j hq)
  · exact fun q j hq => (f_X12_spaced_b90 hk17 hf q j hq).trans (hs q j hq)
theorem f_X12_spaced_b75 {F : Nat}  {r : Int} {σ' : mMem} {k17 : Int → Int → Int → mMem → mRs} {k45 : Int → Int → Int → Int → Int → mMem → mRs} (hk17 : ∀ (x1 x2 x3 : Int) (σ : mMem), k17 x1 x2 x3 σ = some (r, σ') → ∀ q j, ¬ T_X12_spaced  q j → σ' q j = σ q j) (hk45 : ∀ (x1 x2 x3 x4 x5 : Int) (σ : mMem), k45 x1 x2 x3 x4 x5 σ = some (r, σ') → ∀ q j, ¬ T_X12_spaced  q j → σ' q j = σ q j) {x1 x2 x3 x5 t0 : Int} {σ : mMem} (hf : g_X12_spaced_b75 F k17 k45 x1 x2 x3 x5 t0 σ = some (r, σ')) : ∀ q j, ¬ T_X12_spaced  q j → σ' q j = σ q j := by
  unfold g_X12_spaced_b75 at hf
  have hs : ∀ q j, ¬ T_X12_spaced  q j → σ q j = σ q j := fun _ _ _ => rfl
  exact fun q j hq => (hk45 _ _ _ _ _ _ hf q j hq).trans (hs q j hq)
theorem f_X12_spaced_h45 {F : Nat}  {r : Int} {σ' : mMem} {k17 : Int → Int → Int → mMem → mRs} (hk17 : ∀ (x1 x2 x3 : Int) (σ : mMem), k17 x1 x2 x3 σ = some (r, σ') → ∀ q j, ¬ T_X12_spaced  q j → σ' q j = σ q j) (n : Nat) : ∀ {x1 x2 x3 x4 x5 : Int} {σ : mMem} (_ : g_X12_spaced_h45 F k17 n x1 x2 x3 x4 x5 σ = some (r, σ')), ∀ q j, ¬ T_X12_spaced  q j → σ' q j = σ q j := by
  induction n with
  | zero =>
    intro x1 x2 x3 x4 x5 σ hf
    unfold g_X12_spaced_h45 at hf
    cases hf
  | succ n ih =>
    have hk45 : ∀ (x1 x2 x3 x4 x5 : Int) (σ : mMem), g_X12_spaced_h45 F k17 n x1 x2 x3 x4 x5 σ = some (r, σ') → ∀ q j, ¬ T_X12_spaced  q j → σ' q j = σ q j := fun x1 x2 x3 x4 x5 σ hf => ih hf
    intro x1 x2 x3 x4 x5 σ hf
    unfold g_X12_spaced_h45 at hf
    have hs : ∀ q j, ¬ T_X12_spaced  q j → σ q j = σ q j := fun _ _ _ => rfl
    refine f_ite hf (fun hf => ?_) (fun hf => ?_)
    · exact fun q j hq => (f_X12_spaced_b83 hk17 hf q j hq).trans (hs q j hq)
    · refine f_ite hf (fun hf => ?_) (fun hf => ?_)
      · exact fun q j hq => (f_X12_spaced_b83 hk17 hf q j hq).trans (hs q j hq)
      · refine f_mob hf (fun r307 σ308 h1 hf => ?_)
        have hs := fun q j hq => (f_X12_passes h1 q j (by unfold T_X12_spaced at hq; unfold T_X12_passes; omega)).trans (hs q j hq)
        refine f_ite hf (fun hf => ?_) (fun hf => ?_)
        · exact fun q j hq => (f_X12_spaced_b75 hk17 hk45 hf q j hq).trans (hs q j hq)
        · exact fun q j hq => (f_X12_spaced_b75 hk17 hk45 hf q j hq).trans (hs q j hq)
theorem f_X12_spaced_h17 {F : Nat}  {r : Int} {σ' : mMem}   (n : Nat) : ∀ {x1 x2 x3 : Int} {σ : mMem} (_ : g_X12_spaced_h17 F n x1 x2 x3 σ = some (r, σ')), ∀ q j, ¬ T_X12_spaced  q j → σ' q j = σ q j := by
  induction n with
  | zero =>
    intro x1 x2 x3 σ hf
    unfold g_X12_spaced_h17 at hf
    cases hf
  | succ n ih =>
    have hk17 : ∀ (x1 x2 x3 : Int) (σ : mMem), g_X12_spaced_h17 F n x1 x2 x3 σ = some (r, σ') → ∀ q j, ¬ T_X12_spaced  q j → σ' q j = σ q j := fun x1 x2 x3 σ hf => ih hf
    intro x1 x2 x3 σ hf
    unfold g_X12_spaced_h17 at hf
    have hs : ∀ q j, ¬ T_X12_spaced  q j → σ q j = σ q j := fun _ _ _ => rfl
    refine f_ite hf (fun hf => ?_) (fun hf => ?_)
    · exact fun q j hq => (f_X12_spaced_b96 hf q j hq).trans (hs q j hq)
    · refine f_ite hf (fun hf => ?_) (fun hf => ?_)
      · exact fun q j hq => (f_X12_spaced_b96 hf q j hq).trans (hs q j hq)
      · refine f_mem hf (fun q j hq => (mup_ne (by unfold T_X12_spaced at hq; omega)).trans (hs q j hq)) (fun σ103 hs hf => ?_)
        refine f_mob hf (fun r104 σ105 h1 hf => ?_)
        have hs := fun q j hq => (f_X12_copies h1 q j (by unfold T_X12_spaced at hq; unfold T_X12_copies; omega)).trans (hs q j hq)
        exact fun q j hq => (f_X12_spaced_h45 hk17 _ hf q j hq).trans (hs q j hq)
theorem f_X12_spaced {F : Nat}  {r : Int} {σ' : mMem} {x1 : Int} {σ : mMem} (hf : g_X12_spaced F x1 σ = some (r, σ')) : ∀ q j, ¬ T_X12_spaced  q j → σ' q j = σ q j := by
  unfold g_X12_spaced at hf
  have hs : ∀ q j, ¬ T_X12_spaced  q j → σ q j = σ q j := fun _ _ _ => rfl
  refine f_mob hf (fun r1 σ2 h1 hf => ?_)
  have hs := fun q j hq => (f_X12_isAhead h1 q j (by unfold T_X12_isAhead; exact id)).trans (hs q j hq)
  refine f_ite hf (fun hf => ?_) (fun hf => ?_)
  · exact fun q j hq => (f_X12_spaced_h17 _ hf q j hq).trans (hs q j hq)
  · cases hf
    exact hs
def T_X12_bright  (q j : Nat) : Prop := (q = 86 ∧ (j = 63 ∨ j = 64)) ∨ q = 110 ∨ q = 111 ∨ q = 112 ∨ q = 113 ∨ q = 114 ∨ q = 115 ∨ q = 116 ∨ q = 117 ∨ q = 118 ∨ q = 119 ∨ q = 120
theorem f_X12_bright_b93 {F : Nat}  {r : Int} {σ' : mMem} {k16 : Int → Int → mMem → mRs} {k57 : Int → Int → Int → Int → mMem → mRs} (hk16 : ∀ (x1 x2 : Int) (σ : mMem), k16 x1 x2 σ = some (r, σ') → ∀ q j, ¬ T_X12_bright  q j → σ' q j = σ q j) (hk57 : ∀ (x1 x2 x3 x4 : Int) (σ : mMem), k57 x1 x2 x3 x4 σ = some (r, σ') → ∀ q j, ¬ T_X12_bright  q j → σ' q j = σ q j) {x1 x2 x4 t0 : Int} {σ : mMem} (hf : g_X12_bright_b93 F k16 k57 x1 x2 x4 t0 σ = some (r, σ')) : ∀ q j, ¬ T_X12_bright  q j → σ' q j = σ q j := by
  unfold g_X12_bright_b93 at hf
  have hs : ∀ q j, ¬ T_X12_bright  q j → σ q j = σ q j := fun _ _ _ => rfl
  exact fun q j hq => (hk57 _ _ _ _ _ hf q j hq).trans (hs q j hq)
theorem f_X12_bright_b92 {F : Nat}  {r : Int} {σ' : mMem} {k16 : Int → Int → mMem → mRs} {k57 : Int → Int → Int → Int → mMem → mRs} (hk16 : ∀ (x1 x2 : Int) (σ : mMem), k16 x1 x2 σ = some (r, σ') → ∀ q j, ¬ T_X12_bright  q j → σ' q j = σ q j) (hk57 : ∀ (x1 x2 x3 x4 : Int) (σ : mMem), k57 x1 x2 x3 x4 σ = some (r, σ') → ∀ q j, ¬ T_X12_bright  q j → σ' q j = σ q j) {x1 x2 x4 : Int} {σ : mMem} (hf : g_X12_bright_b92 F k16 k57 x1 x2 x4 σ = some (r, σ')) : ∀ q j, ¬ T_X12_bright  q j → σ' q j = σ q j := by
  unfold g_X12_bright_b92 at hf
  have hs : ∀ q j, ¬ T_X12_bright  q j → σ q j = σ q j := fun _ _ _ => rfl
  exact fun q j hq => (f_X12_bright_b93 hk16 hk57 hf q j hq).trans (hs q j hq)
theorem f_X12_bright_h57 {F : Nat}  {r : Int} {σ' : mMem} {k16 : Int → Int → mMem → mRs} (hk16 : ∀ (x1 x2 : Int) (σ : mMem), k16 x1 x2 σ = some (r, σ') → ∀ q j, ¬ T_X12_bright  q j → σ' q j = σ q j) (n : Nat) : ∀ {x1 x2 x3 x4 : Int} {σ : mMem} (_ : g_X12_bright_h57 F k16 n x1 x2 x3 x4 σ = some (r, σ')), ∀ q j, ¬ T_X12_bright  q j → σ' q j = σ q j := by
  induction n with
  | zero =>
    intro x1 x2 x3 x4 σ hf
    unfold g_X12_bright_h57 at hf
    cases hf
  | succ n ih =>
    have hk57 : ∀ (x1 x2 x3 x4 : Int) (σ : mMem), g_X12_bright_h57 F k16 n x1 x2 x3 x4 σ = some (r, σ') → ∀ q j, ¬ T_X12_bright  q j → σ' q j = σ q j := fun x1 x2 x3 x4 σ hf => ih hf
    intro x1 x2 x3 x4 σ hf
    unfold g_X12_bright_h57 at hf
    have hs : ∀ q j, ¬ T_X12_bright  q j → σ q j = σ q j := fun _ _ _ => rfl
    refine f_gd hf (fun hf => ?_)
    refine f_ite hf (fun hf => ?_) (fun hf => ?_)
    · refine f_ite hf (fun hf => ?_) (fun hf => ?_)
      · exact fun q j hq => (hk16 _ _ _ hf q j hq).trans (hs q j hq)
      · cases hf
        exact hs
    · refine f_ite hf (fun hf => ?_) (fun hf => ?_)
      · exact fun q j hq => (f_X12_bright_b92 hk16 hk57 hf q j hq).trans (hs q j hq)
      · refine f_gd hf (fun hf => ?_)
        refine f_ite hf (fun hf => ?_) (fun hf => ?_)
        · exact fun q j hq => (f_X12_bright_b92 hk16 hk57 hf q j hq).trans (hs q j hq)
        · exact fun q j hq => (f_X12_bright_b93 hk16 hk57 hf q j hq).trans (hs q j hq)
theorem f_X12_bright_h35 {F : Nat}  {r : Int} {σ' : mMem} {k16 : Int → Int → mMem → mRs} (hk16 : ∀ (x1 x2 : Int) (σ : mMem), k16 x1 x2 σ = some (r, σ') → ∀ q j, ¬ T_X12_bright  q j → σ' q j = σ q j) (n : Nat) : ∀ {x1 x2 x3 : Int} {σ : mMem} (_ : g_X12_bright_h35 F k16 n x1 x2 x3 σ = some (r, σ')), ∀ q j, ¬ T_X12_bright  q j → σ' q j = σ q j := by
  induction n with
  | zero =>
    intro x1 x2 x3 σ hf
    unfold g_X12_bright_h35 at hf
    cases hf
  | succ n ih =>
    have hk35 : ∀ (x1 x2 x3 : Int) (σ : mMem), g_X12_bright_h35 F k16 n x1 x2 x3 σ = some (r, σ') → ∀ q j, ¬ T_X12_bright  q j → σ' q j = σ q j := fun x1 x2 x3 σ hf => ih hf
    intro x1 x2 x3 σ hf
    unfold g_X12_bright_h35 at hf
    have hs : ∀ q j, ¬ T_X12_bright  q j → σ q j = σ q j := fun _ _ _ => rfl
    refine f_ite hf (fun hf => ?_) (fun hf => ?_)
    · exact fun q j hq => (f_X12_bright_h57 hk16 _ hf q j hq).trans (hs q j hq)
    · refine f_mob hf (fun r206 σ207 h1 hf => ?_)
      have hs := fun q j hq => (f_X12_passes h1 q j (by unfold T_X12_bright at hq; unfold T_X12_passes; omega)).trans (hs q j hq)
      exact fun q j hq => (hk35 _ _ _ _ hf q j hq).trans (hs q j hq)
theorem f_X12_bright_h16 {F : Nat}  {r : Int} {σ' : mMem}   (n : Nat) : ∀ {x1 x2 : Int} {σ : mMem} (_ : g_X12_bright_h16 F n x1 x2 σ = some (r, σ')), ∀ q j, ¬ T_X12_bright  q j → σ' q j = σ q j := by
  induction n with
  | zero =>
    intro x1 x2 σ hf
    unfold g_X12_bright_h16 at hf
    cases hf
  | succ n ih =>
    have hk16 : ∀ (x1 x2 : Int) (σ : mMem), g_X12_bright_h16 F n x1 x2 σ = some (r, σ') → ∀ q j, ¬ T_X12_bright  q j → σ' q j = σ q j := fun x1 x2 σ hf => ih hf
    intro x1 x2 σ hf
    unfold g_X12_bright_h16 at hf
    have hs : ∀ q j, ¬ T_X12_bright  q j → σ q j = σ q j := fun _ _ _ => rfl
    refine f_ite hf (fun hf => ?_) (fun hf => ?_)
    · cases hf
      exact hs
    · refine f_mob hf (fun r103 σ104 h1 hf => ?_)
      have hs := fun q j hq => (f_X12_copies h1 q j (by unfold T_X12_bright at hq; unfold T_X12_copies; omega)).trans (hs q j hq)
      refine f_gd hf (fun hf => ?_)
      refine f_mem hf (fun q j hq => (mup_ne (by unfold T_X12_bright at hq; omega)).trans (hs q j hq)) (fun σ105 hs hf => ?_)
      exact fun q j hq => (f_X12_bright_h35 hk16 _ hf q j hq).trans (hs q j hq)
theorem f_X12_bright {F : Nat}  {r : Int} {σ' : mMem} {x1 : Int} {σ : mMem} (hf : g_X12_bright F x1 σ = some (r, σ')) : ∀ q j, ¬ T_X12_bright  q j → σ' q j = σ q j := by
  unfold g_X12_bright at hf
  have hs : ∀ q j, ¬ T_X12_bright  q j → σ q j = σ q j := fun _ _ _ => rfl
  refine f_mob hf (fun r1 σ2 h1 hf => ?_)
  have hs := fun q j hq => (f_X12_isAhead h1 q j (by unfold T_X12_isAhead; exact id)).trans (hs q j hq)
  refine f_ite hf (fun hf => ?_) (fun hf => ?_)
  · exact fun q j hq => (f_X12_bright_h16 _ hf q j hq).trans (hs q j hq)
  · cases hf
    exact hs
def T_X12_track  (q j : Nat) : Prop := (q = 86 ∧ (j = 1 ∨ j = 66)) ∨ q = 109 ∨ q = 122 ∨ q = 123
theorem f_X12_track_h108 {F : Nat}  {r : Int} {σ' : mMem}   (n : Nat) : ∀ {x3 : Int} {σ : mMem} (_ : g_X12_track_h108 F n x3 σ = some (r, σ')), ∀ q j, ¬ T_X12_track  q j → σ' q j = σ q j := by
  induction n with
  | zero =>
    intro x3 σ hf
    unfold g_X12_track_h108 at hf
    cases hf
  | succ n ih =>
    have hk108 : ∀ (x3 : Int) (σ : mMem), g_X12_track_h108 F n x3 σ = some (r, σ') → ∀ q j, ¬ T_X12_track  q j → σ' q j = σ q j := fun x3 σ hf => ih hf
    intro x3 σ hf
    unfold g_X12_track_h108 at hf
    have hs : ∀ q j, ¬ T_X12_track  q j → σ q j = σ q j := fun _ _ _ => rfl
    refine f_ite hf (fun hf => ?_) (fun hf => ?_)
    · cases hf
      exact hs
    · refine f_gd hf (fun hf => ?_)
      refine f_gd hf (fun hf => ?_)
      refine f_mem hf (fun q j hq => (mup_ne (by unfold T_X12_track at hq; omega)).trans (hs q j hq)) (fun σ708 hs hf => ?_)
      refine f_gd hf (fun hf => ?_)
      refine f_gd hf (fun hf => ?_)
      refine f_gd hf (fun hf => ?_)
      refine f_mem hf (fun q j hq => (mup_ne (by unfold T_X12_track at hq; omega)).trans (hs q j hq)) (fun σ709 hs hf => ?_)
      exact fun q j hq => (hk108 _ _ hf q j hq).trans (hs q j hq)
theorem f_X12_track_b89 {F : Nat}  {r : Int} {σ' : mMem}   {x1 x2 : Int} {σ : mMem} (hf : g_X12_track_b89 F x1 x2 σ = some (r, σ')) : ∀ q j, ¬ T_X12_track  q j → σ' q j = σ q j := by
  unfold g_X12_track_b89 at hf
  have hs : ∀ q j, ¬ T_X12_track  q j → σ q j = σ q j := fun _ _ _ => rfl
  refine f_ite hf (fun hf => ?_) (fun hf => ?_)
  · refine f_dv hf (fun hf => ?_)
    refine f_mem hf (fun q j hq => (mup_ne (by unfold T_X12_track at hq; omega)).trans (hs q j hq)) (fun σ405 hs hf => ?_)
    exact fun q j hq => (f_X12_track_h108 _ hf q j hq).trans (hs q j hq)
  · refine f_mob hf (fun r406 σ407 h1 hf => ?_)
    have hs := fun q j hq => (f_X12_refuses h1 q j (by unfold T_X12_track at hq; unfold T_X12_refuses; omega)).trans (hs q j hq)
    cases hf
    exact hs
theorem f_X12_track_b82 {F : Nat}  {r : Int} {σ' : mMem} {k34 : Int → Int → Int → mMem → mRs} (hk34 : ∀ (x1 x2 x3 : Int) (σ : mMem), k34 x1 x2 x3 σ = some (r, σ') → ∀ q j, ¬ T_X12_track  q j → σ' q j = σ q j) {x1 x3 t0 : Int} {σ : mMem} (hf : g_X12_track_b82 F k34 x1 x3 t0 σ = some (r, σ')) : ∀ q j, ¬ T_X12_track  q j → σ' q j = σ q j := by
  unfold g_X12_track_b82 at hf
  have hs : ∀ q j, ¬ T_X12_track  q j → σ q j = σ q j := fun _ _ _ => rfl
  exact fun q j hq => (hk34 _ _ _ _ hf q j hq).trans (hs q j hq)
theorem f_X12_track_b81 {F : Nat}  {r : Int} {σ' : mMem} {k34 : Int → Int → Int → mMem → mRs} (hk34 : ∀ (x1 x2 x3 : Int) (σ : mMem), k34 x1 x2 x3 σ = some (r, σ') → ∀ q j, ¬ T_X12_track  q j → σ' q j = σ q j) {x1 x3 : Int} {σ : mMem} (hf : g_X12_track_b81 F k34 x1 x3 σ = some (r, σ')) : ∀ q j, ¬ T_X12_track  q j → σ' q j = σ q j := by
  unfold g_X12_track_b81 at hf
  have hs : ∀ q j, ¬ T_X12_track  q j → σ q j = σ q j := fun _ _ _ => rfl
  exact fun q j hq => (f_X12_track_b82 hk34 hf q j hq).trans (hs q j hq)
theorem f_X12_track_h34 {F : Nat}  {r : Int} {σ' : mMem}   (n : Nat) : ∀ {x1 x2 x3 : Int} {σ : mMem} (_ : g_X12_track_h34 F n x1 x2 x3 σ = some (r, σ')), ∀ q j, ¬ T_X12_track  q j → σ' q j = σ q j := by
  induction n with
  | zero =>
    intro x1 x2 x3 σ hf
    unfold g_X12_track_h34 at hf
    cases hf
  | succ n ih =>
    have hk34 : ∀ (x1 x2 x3 : Int) (σ : mMem), g_X12_track_h34 F n x1 x2 x3 σ = some (r, σ') → ∀ q j, ¬ T_X12_track  q j → σ' q j = σ q j := fun x1 x2 x3 σ hf => ih hf
    intro x1 x2 x3 σ hf
    unfold g_X12_track_h34 at hf
    have hs : ∀ q j, ¬ T_X12_track  q j → σ q j = σ q j := fun _ _ _ => rfl
    refine f_ite hf (fun hf => ?_) (fun hf => ?_)
    · exact fun q j hq => (f_X12_track_b89 hf q j hq).trans (hs q j hq)
    · refine f_ite hf (fun hf => ?_) (fun hf => ?_)
      · exact fun q j hq => (f_X12_track_b89 hf q j hq).trans (hs q j hq)
      · refine f_gd hf (fun hf => ?_)
        refine f_ite hf (fun hf => ?_) (fun hf => ?_)
        · exact fun q j hq => (f_X12_track_b81 hk34 hf q j hq).trans (hs q j hq)
        · refine f_gd hf (fun hf => ?_)
          refine f_gd hf (fun hf => ?_)
          refine f_mob hf (fun r303 σ304 h1 hf => ?_)
          have hs := fun q j hq => (f_X12_isOn h1 q j (by unfold T_X12_isOn; exact id)).trans (hs q j hq)
          refine f_ite hf (fun hf => ?_) (fun hf => ?_)
          · exact fun q j hq => (f_X12_track_b81 hk34 hf q j hq).trans (hs q j hq)
          · exact fun q j hq => (f_X12_track_b82 hk34 hf q j hq).trans (hs q j hq)
theorem f_X12_track_b31 {F : Nat}  {r : Int} {σ' : mMem}   {x1 t0 : Int} {σ : mMem} (hf : g_X12_track_b31 F x1 t0 σ = some (r, σ')) : ∀ q j, ¬ T_X12_track  q j → σ' q j = σ q j := by
  unfold g_X12_track_b31 at hf
  have hs : ∀ q j, ¬ T_X12_track  q j → σ q j = σ q j := fun _ _ _ => rfl
  exact fun q j hq => (f_X12_track_h34 _ hf q j hq).trans (hs q j hq)
theorem f_X12_track_b30 {F : Nat}  {r : Int} {σ' : mMem}   {x1 : Int} {σ : mMem} (hf : g_X12_track_b30 F x1 σ = some (r, σ')) : ∀ q j, ¬ T_X12_track  q j → σ' q j = σ q j := by
  unfold g_X12_track_b30 at hf
  have hs : ∀ q j, ¬ T_X12_track  q j → σ q j = σ q j := fun _ _ _ => rfl
  exact fun q j hq => (f_X12_track_b31 hf q j hq).trans (hs q j hq)
theorem f_X12_track {F : Nat}  {r : Int} {σ' : mMem} {σ : mMem} (hf : g_X12_track F σ = some (r, σ')) : ∀ q j, ¬ T_X12_track  q j → σ' q j = σ q j := by
  unfold g_X12_track at hf
  have hs : ∀ q j, ¬ T_X12_track  q j → σ q j = σ q j := fun _ _ _ => rfl
  refine f_let hf (fun y1 hf => ?_)
  refine f_mem hf (fun q j hq => (mup_ne (by unfold T_X12_track at hq; omega)).trans (hs q j hq)) (fun σ2 hs hf => ?_)
  refine f_ite hf (fun hf => ?_) (fun hf => ?_)
  · exact fun q j hq => (f_X12_track_b30 hf q j hq).trans (hs q j hq)
  · refine f_dv hf (fun hf => ?_)
    refine f_ite hf (fun hf => ?_) (fun hf => ?_)
    · exact fun q j hq => (f_X12_track_b30 hf q j hq).trans (hs q j hq)
    · refine f_ite hf (fun hf => ?_) (fun hf => ?_)
      · exact fun q j hq => (f_X12_track_b30 hf q j hq).trans (hs q j hq)
      · exact fun q j hq => (f_X12_track_b31 hf q j hq).trans (hs q j hq)
def T_X12_walks  (q j : Nat) : Prop := (q = 86 ∧ (j = 60 ∨ j = 61 ∨ j = 63 ∨ j = 64)) ∨ q = 110 ∨ q = 111 ∨ q = 112 ∨ q = 113 ∨ q = 114 ∨ q = 115 ∨ q = 116 ∨ q = 117 ∨ q = 118 ∨ q = 119 ∨ q = 120 ∨ q = 124
theorem f_X12_walks_b78 {F : Nat}  {r : Int} {σ' : mMem} {k18 : Int → Int → Int → mMem → mRs} (hk18 : ∀ (x1 x2 x3 : Int) (σ : mMem), k18 x1 x2 x3 σ = some (r, σ') → ∀ q j, ¬ T_X12_walks  q j → σ' q j = σ q j) {x1 x2 x3 : Int} {σ : mMem} (hf : g_X12_walks_b78 F k18 x1 x2 x3 σ = some (r, σ')) : ∀ q j, ¬ T_X12_walks  q j → σ' q j = σ q j := by
  unfold g_X12_walks_b78 at hf
  have hs : ∀ q j, ¬ T_X12_walks  q j → σ q j = σ q j := fun _ _ _ => rfl
  exact fun q j hq => (hk18 _ _ _ _ hf q j hq).trans (hs q j hq)
theorem f_X12_walks_b58 {F : Nat}  {r : Int} {σ' : mMem} {k18 : Int → Int → Int → mMem → mRs} (hk18 : ∀ (x1 x2 x3 : Int) (σ : mMem), k18 x1 x2 x3 σ = some (r, σ') → ∀ q j, ¬ T_X12_walks  q j → σ' q j = σ q j) {x1 x2 x3 t0 t1 : Int} {σ : mMem} (hf : g_X12_walks_b58 F k18 x1 x2 x3 t0 t1 σ = some (r, σ')) : ∀ q j, ¬ T_X12_walks  q j → σ' q j = σ q j := by
  unfold g_X12_walks_b58 at hf
  have hs : ∀ q j, ¬ T_X12_walks  q j → σ q j = σ q j := fun _ _ _ => rfl
  refine f_gd hf (fun hf => ?_)
  refine f_mem hf (fun q j hq => (mup_ne (by unfold T_X12_walks at hq; omega)).trans (hs q j hq)) (fun σ208 hs hf => ?_)
  refine f_mob hf (fun r209 σ210 h1 hf => ?_)
  have hs := fun q j hq => (f_X12_isAhead h1 q j (by unfold T_X12_isAhead; exact id)).trans (hs q j hq)
  refine f_ite hf (fun hf => ?_) (fun hf => ?_)
  · exact fun q j hq => (f_X12_walks_b78 hk18 hf q j hq).trans (hs q j hq)
  · refine f_mob hf (fun r211 σ212 h1 hf => ?_)
    have hs := fun q j hq => (f_X12_passes h1 q j (by unfold T_X12_walks at hq; unfold T_X12_passes; omega)).trans (hs q j hq)
    exact fun q j hq => (f_X12_walks_b78 hk18 hf q j hq).trans (hs q j hq)
theorem f_X12_walks_h18 {F : Nat}  {r : Int} {σ' : mMem}   (n : Nat) : ∀ {x1 x2 x3 : Int} {σ : mMem} (_ : g_X12_walks_h18 F n x1 x2 x3 σ = some (r, σ')), ∀ q j, ¬ T_X12_walks  q j → σ' q j = σ q j := by
  induction n with
  | zero =>
    intro x1 x2 x3 σ hf
    unfold g_X12_walks_h18 at hf
    cases hf
  | succ n ih =>
    have hk18 : ∀ (x1 x2 x3 : Int) (σ : mMem), g_X12_walks_h18 F n x1 x2 x3 σ = some (r, σ') → ∀ q j, ¬ T_X12_walks  q j → σ' q j = σ q j := fun x1 x2 x3 σ hf => ih hf
    intro x1 x2 x3 σ hf
    unfold g_X12_walks_h18 at hf
    have hs : ∀ q j, ¬ T_X12_walks  q j → σ q j = σ q j := fun _ _ _ => rfl
    refine f_ite hf (fun hf => ?_) (fun hf => ?_)
    · refine f_mem hf (fun q j hq => (mup_ne (by unfold T_X12_walks at hq; omega)).trans (hs q j hq)) (fun σ105 hs hf => ?_)
      cases hf
      exact hs
    · refine f_mob hf (fun r106 σ107 h1 hf => ?_)
      have hs := fun q j hq => (f_X12_isAhead h1 q j (by unfold T_X12_isAhead; exact id)).trans (hs q j hq)
      refine f_ite hf (fun hf => ?_) (fun hf => ?_)
      · exact fun q j hq => (f_X12_walks_b58 hk18 hf q j hq).trans (hs q j hq)
      · refine f_gd hf (fun hf => ?_)
        exact fun q j hq => (f_X12_walks_b58 hk18 hf q j hq).trans (hs q j hq)
theorem f_X12_walks {F : Nat}  {r : Int} {σ' : mMem} {x1 x2 : Int} {σ : mMem} (hf : g_X12_walks F x1 x2 σ = some (r, σ')) : ∀ q j, ¬ T_X12_walks  q j → σ' q j = σ q j := by
  unfold g_X12_walks at hf
  have hs : ∀ q j, ¬ T_X12_walks  q j → σ q j = σ q j := fun _ _ _ => rfl
  refine f_mem hf (fun q j hq => (mup_ne (by unfold T_X12_walks at hq; omega)).trans (hs q j hq)) (fun σ1 hs hf => ?_)
  refine f_mem hf (fun q j hq => (mup_ne (by unfold T_X12_walks at hq; omega)).trans (hs q j hq)) (fun σ2 hs hf => ?_)
  refine f_mob hf (fun r3 σ4 h1 hf => ?_)
  have hs := fun q j hq => (f_X12_copies h1 q j (by unfold T_X12_walks at hq; unfold T_X12_copies; omega)).trans (hs q j hq)
  exact fun q j hq => (f_X12_walks_h18 _ hf q j hq).trans (hs q j hq)
def T_X12_isTrack  (q j : Nat) : Prop := False
theorem f_X12_isTrack_h2 {F : Nat}  {r : Int} {σ' : mMem}   (n : Nat) : ∀ {x1 x2 : Int} {σ : mMem} (_ : g_X12_isTrack_h2 F n x1 x2 σ = some (r, σ')), ∀ q j, ¬ T_X12_isTrack  q j → σ' q j = σ q j := by
  induction n with
  | zero =>
    intro x1 x2 σ hf
    unfold g_X12_isTrack_h2 at hf
    cases hf
  | succ n ih =>
    have hk2 : ∀ (x1 x2 : Int) (σ : mMem), g_X12_isTrack_h2 F n x1 x2 σ = some (r, σ') → ∀ q j, ¬ T_X12_isTrack  q j → σ' q j = σ q j := fun x1 x2 σ hf => ih hf
    intro x1 x2 σ hf
    unfold g_X12_isTrack_h2 at hf
    have hs : ∀ q j, ¬ T_X12_isTrack  q j → σ q j = σ q j := fun _ _ _ => rfl
    refine f_ite hf (fun hf => ?_) (fun hf => ?_)
    · refine f_gd hf (fun hf => ?_)
      cases hf
      exact hs
    · refine f_gd hf (fun hf => ?_)
      refine f_gd hf (fun hf => ?_)
      refine f_gd hf (fun hf => ?_)
      refine f_ite hf (fun hf => ?_) (fun hf => ?_)
      · exact fun q j hq => (hk2 _ _ _ hf q j hq).trans (hs q j hq)
      · refine f_gd hf (fun hf => ?_)
        cases hf
        exact hs
theorem f_X12_isTrack {F : Nat}  {r : Int} {σ' : mMem} {x1 : Int} {σ : mMem} (hf : g_X12_isTrack F x1 σ = some (r, σ')) : ∀ q j, ¬ T_X12_isTrack  q j → σ' q j = σ q j := by
  unfold g_X12_isTrack at hf
  have hs : ∀ q j, ¬ T_X12_isTrack  q j → σ q j = σ q j := fun _ _ _ => rfl
  exact fun q j hq => (f_X12_isTrack_h2 _ hf q j hq).trans (hs q j hq)
