/-! what a model does not touch: rows for the program's texts -/
theorem mup_ne {σ : mMem} {o k q j : Nat} {z : Int} (h : ¬ (q = o ∧ j = k)) : mup σ o k z q j = σ q j := by
  unfold mup mupo mup1
  by_cases e : q = o
  · subst e
    rw [if_pos rfl, if_neg (fun e2 => h ⟨rfl, e2⟩)]
  · rw [if_neg e]
theorem mupo_ne {σ : mMem} {o q j : Nat} {r : Nat → Int} (h : ¬ q = o) : mupo σ o r q j = σ q j := by
  unfold mupo
  rw [if_neg h]
section MF
variable {P : Prop} {A B : mRs} {z : Int × mMem}
theorem f_ite {c : Prop} [Decidable c] (hf : (if c then A else B) = some z) (k1 : A = some z → P) (k2 : B = some z → P) : P := by
  by_cases h : c
  · rw [if_pos h] at hf; exact k1 hf
  · rw [if_neg h] at hf; exact k2 hf
theorem f_gd {c : Prop} [Decidable c] (hf : (if c then A else none) = some z) (k1 : A = some z → P) : P := f_ite hf k1 (fun h => by cases h)
theorem f_gp {c : Prop} [Decidable c] (hf : (if c then A else none) = some z) (k1 : c → A = some z → P) : P := by
  by_cases h : c
  · rw [if_pos h] at hf; exact k1 h hf
  · rw [if_neg h] at hf; cases hf
theorem f_ga {a : Int} {N : Int} (hf : (if 0 ≤ mw a ∧ mw a < N then A else none) = some z) (k1 : (mw a).toNat < N.toNat → A = some z → P) : P := f_gp hf (fun h => k1 (by omega))
theorem f_dv {c : Prop} [Decidable c] (hf : (if c then none else A) = some z) (k1 : A = some z → P) : P := f_ite hf (fun h => by cases h) k1
theorem f_let {a : Int} {k : Int → mRs} (hf : mlet a k = some z) (k1 : ∀ b, k b = some z → P) : P := k1 a hf
theorem f_mem {σ τ : mMem} {T : Nat → Nat → Prop} {k : mMem → mRs} (hf : mlm τ k = some z) (hs : ∀ q j, ¬ T q j → τ q j = σ q j) (k1 : ∀ τ : mMem, (∀ q j, ¬ T q j → τ q j = σ q j) → k τ = some z → P) : P := k1 τ hs hf
theorem f_mob {w : mRs} {k : Int → mMem → mRs} (hf : mob w k = some z) (k1 : ∀ (r : Int) (σ : mMem), w = some (r, σ) → k r σ = some z → P) : P := by
  obtain ⟨r, σ, h1, h2⟩ := mob_some hf
  exact k1 r σ h1 h2
end MF

def T_X10_copyFrom (o : Nat) (w1 : Nat) (q j : Nat) : Prop := (q = o ∧ (j = 3 ∨ j = 4 ∨ j = 5)) ∨ q = (o + 1)
theorem f_X10_copyFrom {F : Nat} {o : Nat} {w1 : Nat} {r : Int} {σ' : mMem} {σ : mMem} (hf : g_X10_copyFrom F o w1 σ = some (r, σ')) : ∀ q j, ¬ T_X10_copyFrom o w1 q j → σ' q j = σ q j := by
  unfold g_X10_copyFrom at hf
  have hs : ∀ q j, ¬ T_X10_copyFrom o w1 q j → σ q j = σ q j := fun _ _ _ => rfl
  refine f_gp hf (fun hg1 hf => ?_)
  refine f_mem hf (fun q j hq => (mup_ne (by unfold T_X10_copyFrom at hq; omega)).trans (hs q j hq)) (fun σ2 hs hf => ?_)
  refine f_mem hf (fun q j hq => (mup_ne (by unfold T_X10_copyFrom at hq; omega)).trans (hs q j hq)) (fun σ3 hs hf => ?_)
  refine f_mem hf (fun q j hq => (mup_ne (by unfold T_X10_copyFrom at hq; omega)).trans (hs q j hq)) (fun σ4 hs hf => ?_)
  refine f_gd hf (fun hf => ?_)
  refine f_mem hf (fun q j hq => (mupo_ne (by unfold T_X10_copyFrom at hq; omega)).trans (hs q j hq)) (fun σ5 hs hf => ?_)
  cases hf
  exact hs
def T_X10_of (o : Nat) (q j : Nat) : Prop := False
theorem f_X10_of_b27 {F : Nat} {o : Nat} {r : Int} {σ' : mMem}   {t0 : Int} {σ : mMem} (hf : g_X10_of_b27 F o t0 σ = some (r, σ')) : ∀ q j, ¬ T_X10_of o q j → σ' q j = σ q j := by
  unfold g_X10_of_b27 at hf
  have hs : ∀ q j, ¬ T_X10_of o q j → σ q j = σ q j := fun _ _ _ => rfl
  cases hf
  exact hs
theorem f_X10_of_b26 {F : Nat} {o : Nat} {r : Int} {σ' : mMem}   {σ : mMem} (hf : g_X10_of_b26 F o  σ = some (r, σ')) : ∀ q j, ¬ T_X10_of o q j → σ' q j = σ q j := by
  unfold g_X10_of_b26 at hf
  have hs : ∀ q j, ¬ T_X10_of o q j → σ q j = σ q j := fun _ _ _ => rfl
  exact fun q j hq => (f_X10_of_b27 hf q j hq).trans (hs q j hq)
theorem f_X10_of {F : Nat} {o : Nat} {r : Int} {σ' : mMem} {x1 x2 : Int} {σ : mMem} (hf : g_X10_of F o x1 x2 σ = some (r, σ')) : ∀ q j, ¬ T_X10_of o q j → σ' q j = σ q j := by
  unfold g_X10_of at hf
  have hs : ∀ q j, ¬ T_X10_of o q j → σ q j = σ q j := fun _ _ _ => rfl
  refine f_let hf (fun y1 hf => ?_)
  refine f_ite hf (fun hf => ?_) (fun hf => ?_)
  · exact fun q j hq => (f_X10_of_b26 hf q j hq).trans (hs q j hq)
  · refine f_ite hf (fun hf => ?_) (fun hf => ?_)
    · exact fun q j hq => (f_X10_of_b26 hf q j hq).trans (hs q j hq)
    · refine f_gd hf (fun hf => ?_)
      exact fun q j hq => (f_X10_of_b27 hf q j hq).trans (hs q j hq)
def T_J9_min_7cf53  (q j : Nat) : Prop := False
theorem f_J9_min_7cf53_b10 {F : Nat}  {r : Int} {σ' : mMem}   {t0 : Int} {σ : mMem} (hf : g_J9_min_7cf53_b10 F t0 σ = some (r, σ')) : ∀ q j, ¬ T_J9_min_7cf53  q j → σ' q j = σ q j := by
  unfold g_J9_min_7cf53_b10 at hf
  have hs : ∀ q j, ¬ T_J9_min_7cf53  q j → σ q j = σ q j := fun _ _ _ => rfl
  cases hf
  exact hs
theorem f_J9_min_7cf53 {F : Nat}  {r : Int} {σ' : mMem} {x0 x1 : Int} {σ : mMem} (hf : g_J9_min_7cf53 F x0 x1 σ = some (r, σ')) : ∀ q j, ¬ T_J9_min_7cf53  q j → σ' q j = σ q j := by
  unfold g_J9_min_7cf53 at hf
  have hs : ∀ q j, ¬ T_J9_min_7cf53  q j → σ q j = σ q j := fun _ _ _ => rfl
  refine f_ite hf (fun hf => ?_) (fun hf => ?_)
  · exact fun q j hq => (f_J9_min_7cf53_b10 hf q j hq).trans (hs q j hq)
  · exact fun q j hq => (f_J9_min_7cf53_b10 hf q j hq).trans (hs q j hq)
def T_X10_boxIn (a0 : Nat) (q j : Nat) : Prop := False
theorem f_X10_boxIn_b61 {F : Nat} {a0 n0 : Nat} {r : Int} {σ' : mMem}   {σ : mMem} (hf : g_X10_boxIn_b61 F a0 n0  σ = some (r, σ')) : ∀ q j, ¬ T_X10_boxIn a0 q j → σ' q j = σ q j := by
  unfold g_X10_boxIn_b61 at hf
  have hs : ∀ q j, ¬ T_X10_boxIn a0 q j → σ q j = σ q j := fun _ _ _ => rfl
  cases hf
  exact hs
theorem f_X10_boxIn_b55 {F : Nat} {a0 n0 : Nat} {r : Int} {σ' : mMem} {k3 : Int → Int → Int → Int → mMem → mRs} (hk3 : ∀ (x1 x2 x3 x4 : Int) (σ : mMem), k3 x1 x2 x3 x4 σ = some (r, σ') → ∀ q j, ¬ T_X10_boxIn a0 q j → σ' q j = σ q j) {x1 x2 x3 x4 : Int} {σ : mMem} (hf : g_X10_boxIn_b55 F a0 n0 k3 x1 x2 x3 x4 σ = some (r, σ')) : ∀ q j, ¬ T_X10_boxIn a0 q j → σ' q j = σ q j := by
  unfold g_X10_boxIn_b55 at hf
  have hs : ∀ q j, ¬ T_X10_boxIn a0 q j → σ q j = σ q j := fun _ _ _ => rfl
  exact fun q j hq => (hk3 _ _ _ _ _ hf q j hq).trans (hs q j hq)
theorem f_X10_boxIn_h3 {F : Nat} {a0 n0 : Nat} {r : Int} {σ' : mMem}   (n : Nat) : ∀ {x1 x2 x3 x4 : Int} {σ : mMem} (_ : g_X10_boxIn_h3 F a0 n0 n x1 x2 x3 x4 σ = some (r, σ')), ∀ q j, ¬ T_X10_boxIn a0 q j → σ' q j = σ q j := by
  induction n with
  | zero =>
    intro x1 x2 x3 x4 σ hf
    unfold g_X10_boxIn_h3 at hf
    cases hf
  | succ n ih =>
    have hk3 : ∀ (x1 x2 x3 x4 : Int) (σ : mMem), g_X10_boxIn_h3 F a0 n0 n x1 x2 x3 x4 σ = some (r, σ') → ∀ q j, ¬ T_X10_boxIn a0 q j → σ' q j = σ q j := fun x1 x2 x3 x4 σ hf => ih hf
    intro x1 x2 x3 x4 σ hf
    unfold g_X10_boxIn_h3 at hf
    have hs : ∀ q j, ¬ T_X10_boxIn a0 q j → σ q j = σ q j := fun _ _ _ => rfl
    refine f_ite hf (fun hf => ?_) (fun hf => ?_)
    · exact fun q j hq => (f_X10_boxIn_b61 hf q j hq).trans (hs q j hq)
    · refine f_ite hf (fun hf => ?_) (fun hf => ?_)
      · exact fun q j hq => (f_X10_boxIn_b61 hf q j hq).trans (hs q j hq)
      · refine f_let hf (fun y101 hf => ?_)
        refine f_ite hf (fun hf => ?_) (fun hf => ?_)
        · exact fun q j hq => (f_X10_boxIn_b55 hk3 hf q j hq).trans (hs q j hq)
        · refine f_gd hf (fun hf => ?_)
          refine f_ite hf (fun hf => ?_) (fun hf => ?_)
          · exact fun q j hq => (f_X10_boxIn_b55 hk3 hf q j hq).trans (hs q j hq)
          · refine f_gd hf (fun hf => ?_)
            refine f_ite hf (fun hf => ?_) (fun hf => ?_)
            · exact fun q j hq => (f_X10_boxIn_b55 hk3 hf q j hq).trans (hs q j hq)
            · cases hf
              exact hs
theorem f_X10_boxIn {F : Nat} {a0 n0 : Nat} {r : Int} {σ' : mMem} {x1 x2 x3 : Int} {σ : mMem} (hf : g_X10_boxIn F a0 n0 x1 x2 x3 σ = some (r, σ')) : ∀ q j, ¬ T_X10_boxIn a0 q j → σ' q j = σ q j := by
  unfold g_X10_boxIn at hf
  have hs : ∀ q j, ¬ T_X10_boxIn a0 q j → σ q j = σ q j := fun _ _ _ => rfl
  exact fun q j hq => (f_X10_boxIn_h3 _ hf q j hq).trans (hs q j hq)
def T_X10_boxOn (o : Nat) (q j : Nat) : Prop := False
theorem f_X10_boxOn {F : Nat} {o : Nat} {r : Int} {σ' : mMem} {x1 x2 : Int} {σ : mMem} (hf : g_X10_boxOn F o x1 x2 σ = some (r, σ')) : ∀ q j, ¬ T_X10_boxOn o q j → σ' q j = σ q j := by
  unfold g_X10_boxOn at hf
  have hs : ∀ q j, ¬ T_X10_boxOn o q j → σ q j = σ q j := fun _ _ _ => rfl
  refine f_gp hf (fun hg1 hf => ?_)
  refine f_mob hf (fun r2 σ3 h1 hf => ?_)
  have hs := fun q j hq => (f_X10_boxIn h1 q j (by unfold T_X10_boxIn; exact id)).trans (hs q j hq)
  cases hf
  exact hs
def T_X10_columnStep  (q j : Nat) : Prop := False
theorem f_X10_columnStep_b17 {F : Nat}  {r : Int} {σ' : mMem}   {t0 : Int} {σ : mMem} (hf : g_X10_columnStep_b17 F t0 σ = some (r, σ')) : ∀ q j, ¬ T_X10_columnStep  q j → σ' q j = σ q j := by
  unfold g_X10_columnStep_b17 at hf
  have hs : ∀ q j, ¬ T_X10_columnStep  q j → σ q j = σ q j := fun _ _ _ => rfl
  cases hf
  exact hs
theorem f_X10_columnStep {F : Nat}  {r : Int} {σ' : mMem} {x0 : Int} {σ : mMem} (hf : g_X10_columnStep F x0 σ = some (r, σ')) : ∀ q j, ¬ T_X10_columnStep  q j → σ' q j = σ q j := by
  unfold g_X10_columnStep at hf
  have hs : ∀ q j, ¬ T_X10_columnStep  q j → σ q j = σ q j := fun _ _ _ => rfl
  refine f_ite hf (fun hf => ?_) (fun hf => ?_)
  · refine f_ite hf (fun hf => ?_) (fun hf => ?_)
    · exact fun q j hq => (f_X10_columnStep_b17 hf q j hq).trans (hs q j hq)
    · exact fun q j hq => (f_X10_columnStep_b17 hf q j hq).trans (hs q j hq)
  · cases hf
    exact hs
def T_X10_rowStep  (q j : Nat) : Prop := False
theorem f_X10_rowStep_b16 {F : Nat}  {r : Int} {σ' : mMem}   {t0 : Int} {σ : mMem} (hf : g_X10_rowStep_b16 F t0 σ = some (r, σ')) : ∀ q j, ¬ T_X10_rowStep  q j → σ' q j = σ q j := by
  unfold g_X10_rowStep_b16 at hf
  have hs : ∀ q j, ¬ T_X10_rowStep  q j → σ q j = σ q j := fun _ _ _ => rfl
  cases hf
  exact hs
theorem f_X10_rowStep {F : Nat}  {r : Int} {σ' : mMem} {x0 : Int} {σ : mMem} (hf : g_X10_rowStep F x0 σ = some (r, σ')) : ∀ q j, ¬ T_X10_rowStep  q j → σ' q j = σ q j := by
  unfold g_X10_rowStep at hf
  have hs : ∀ q j, ¬ T_X10_rowStep  q j → σ q j = σ q j := fun _ _ _ => rfl
  refine f_ite hf (fun hf => ?_) (fun hf => ?_)
  · refine f_ite hf (fun hf => ?_) (fun hf => ?_)
    · exact fun q j hq => (f_X10_rowStep_b16 hf q j hq).trans (hs q j hq)
    · exact fun q j hq => (f_X10_rowStep_b16 hf q j hq).trans (hs q j hq)
  · cases hf
    exact hs
def T_X10_set (o : Nat) (q j : Nat) : Prop := q = (o + 1)
theorem f_X10_set_b28 {F : Nat} {o : Nat} {r : Int} {σ' : mMem}   {σ : mMem} (hf : g_X10_set_b28 F o  σ = some (r, σ')) : ∀ q j, ¬ T_X10_set o q j → σ' q j = σ q j := by
  unfold g_X10_set_b28 at hf
  have hs : ∀ q j, ¬ T_X10_set o q j → σ q j = σ q j := fun _ _ _ => rfl
  cases hf
  exact hs
theorem f_X10_set {F : Nat} {o : Nat} {r : Int} {σ' : mMem} {x1 x2 x3 : Int} {σ : mMem} (hf : g_X10_set F o x1 x2 x3 σ = some (r, σ')) : ∀ q j, ¬ T_X10_set o q j → σ' q j = σ q j := by
  unfold g_X10_set at hf
  have hs : ∀ q j, ¬ T_X10_set o q j → σ q j = σ q j := fun _ _ _ => rfl
  refine f_let hf (fun y1 hf => ?_)
  refine f_ite hf (fun hf => ?_) (fun hf => ?_)
  · exact fun q j hq => (f_X10_set_b28 hf q j hq).trans (hs q j hq)
  · refine f_ite hf (fun hf => ?_) (fun hf => ?_)
    · exact fun q j hq => (f_X10_set_b28 hf q j hq).trans (hs q j hq)
    · refine f_gd hf (fun hf => ?_)
      refine f_mem hf (fun q j hq => (mup_ne (by unfold T_X10_set at hq; omega)).trans (hs q j hq)) (fun σ2 hs hf => ?_)
      exact fun q j hq => (f_X10_set_b28 hf q j hq).trans (hs q j hq)
def T_X10_turnBy (o : Nat) (q j : Nat) : Prop := q = (o + 1)
theorem f_X10_turnBy {F : Nat} {o : Nat} {r : Int} {σ' : mMem} {x1 x2 : Int} {σ : mMem} (hf : g_X10_turnBy F o x1 x2 σ = some (r, σ')) : ∀ q j, ¬ T_X10_turnBy o q j → σ' q j = σ q j := by
  unfold g_X10_turnBy at hf
  have hs : ∀ q j, ¬ T_X10_turnBy o q j → σ q j = σ q j := fun _ _ _ => rfl
  refine f_mob hf (fun r1 σ2 h1 hf => ?_)
  have hs := fun q j hq => (f_X10_of h1 q j (by unfold T_X10_of; exact id)).trans (hs q j hq)
  refine f_mob hf (fun r3 σ4 h1 hf => ?_)
  have hs := fun q j hq => (f_X10_set h1 q j (by unfold T_X10_turnBy at hq; unfold T_X10_set; omega)).trans (hs q j hq)
  cases hf
  exact hs
def T_X5_hasCell (o : Nat) (q j : Nat) : Prop := False
theorem f_X5_hasCell_b29 {F : Nat} {o : Nat} {r : Int} {σ' : mMem}   {t0 : Int} {σ : mMem} (hf : g_X5_hasCell_b29 F o t0 σ = some (r, σ')) : ∀ q j, ¬ T_X5_hasCell o q j → σ' q j = σ q j := by
  unfold g_X5_hasCell_b29 at hf
  have hs : ∀ q j, ¬ T_X5_hasCell o q j → σ q j = σ q j := fun _ _ _ => rfl
  refine f_gd hf (fun hf => ?_)
  cases hf
  exact hs
theorem f_X5_hasCell_b28 {F : Nat} {o : Nat} {r : Int} {σ' : mMem}   {σ : mMem} (hf : g_X5_hasCell_b28 F o  σ = some (r, σ')) : ∀ q j, ¬ T_X5_hasCell o q j → σ' q j = σ q j := by
  unfold g_X5_hasCell_b28 at hf
  have hs : ∀ q j, ¬ T_X5_hasCell o q j → σ q j = σ q j := fun _ _ _ => rfl
  exact fun q j hq => (f_X5_hasCell_b29 hf q j hq).trans (hs q j hq)
theorem f_X5_hasCell {F : Nat} {o : Nat} {r : Int} {σ' : mMem} {x1 x2 : Int} {σ : mMem} (hf : g_X5_hasCell F o x1 x2 σ = some (r, σ')) : ∀ q j, ¬ T_X5_hasCell o q j → σ' q j = σ q j := by
  unfold g_X5_hasCell at hf
  have hs : ∀ q j, ¬ T_X5_hasCell o q j → σ q j = σ q j := fun _ _ _ => rfl
  refine f_ite hf (fun hf => ?_) (fun hf => ?_)
  · exact fun q j hq => (f_X5_hasCell_b28 hf q j hq).trans (hs q j hq)
  · refine f_ite hf (fun hf => ?_) (fun hf => ?_)
    · exact fun q j hq => (f_X5_hasCell_b28 hf q j hq).trans (hs q j hq)
    · refine f_ite hf (fun hf => ?_) (fun hf => ?_)
      · exact fun q j hq => (f_X5_hasCell_b28 hf q j hq).trans (hs q j hq)
      · refine f_ite hf (fun hf => ?_) (fun hf => ?_)
        · exact fun q j hq => (f_X5_hasCell_b28 hf q j hq).trans (hs q j hq)
        · exact fun q j hq => (f_X5_hasCell_b29 hf q j hq).trans (hs q j hq)
def T_X10_goAhead (o : Nat) (q j : Nat) : Prop := (q = o ∧ (j = 6 ∨ j = 7)) ∨ q = (o + 1) ∨ q = (o + 2)
theorem f_X10_goAhead_b56 {F : Nat} {o : Nat} {r : Int} {σ' : mMem}   {x1 : Int} {σ : mMem} (hf : g_X10_goAhead_b56 F o x1 σ = some (r, σ')) : ∀ q j, ¬ T_X10_goAhead o q j → σ' q j = σ q j := by
  unfold g_X10_goAhead_b56 at hf
  have hs : ∀ q j, ¬ T_X10_goAhead o q j → σ q j = σ q j := fun _ _ _ => rfl
  refine f_mob hf (fun r129 σ130 h1 hf => ?_)
  have hs := fun q j hq => (f_X10_of h1 q j (by unfold T_X10_of; exact id)).trans (hs q j hq)
  refine f_mob hf (fun r131 σ132 h1 hf => ?_)
  have hs := fun q j hq => (f_X10_set h1 q j (by unfold T_X10_goAhead at hq; unfold T_X10_set; omega)).trans (hs q j hq)
  refine f_mem hf (fun q j hq => (mup_ne (by unfold T_X10_goAhead at hq; omega)).trans (hs q j hq)) (fun σ133 hs hf => ?_)
  cases hf
  exact hs
theorem f_X10_goAhead_b180 {F : Nat} {o : Nat} {r : Int} {σ' : mMem}   {σ : mMem} (hf : g_X10_goAhead_b180 F o  σ = some (r, σ')) : ∀ q j, ¬ T_X10_goAhead o q j → σ' q j = σ q j := by
  unfold g_X10_goAhead_b180 at hf
  have hs : ∀ q j, ¬ T_X10_goAhead o q j → σ q j = σ q j := fun _ _ _ => rfl
  cases hf
  exact hs
theorem f_X10_goAhead_b137 {F : Nat} {o : Nat} {r : Int} {σ' : mMem}   {x1 : Int} {σ : mMem} (hf : g_X10_goAhead_b137 F o x1 σ = some (r, σ')) : ∀ q j, ¬ T_X10_goAhead o q j → σ' q j = σ q j := by
  unfold g_X10_goAhead_b137 at hf
  have hs : ∀ q j, ¬ T_X10_goAhead o q j → σ q j = σ q j := fun _ _ _ => rfl
  refine f_mem hf (fun q j hq => (mup_ne (by unfold T_X10_goAhead at hq; omega)).trans (hs q j hq)) (fun σ234 hs hf => ?_)
  refine f_mob hf (fun r235 σ236 h1 hf => ?_)
  have hs := fun q j hq => (f_X10_of h1 q j (by unfold T_X10_of; exact id)).trans (hs q j hq)
  refine f_ite hf (fun hf => ?_) (fun hf => ?_)
  · exact fun q j hq => (f_X10_goAhead_b180 hf q j hq).trans (hs q j hq)
  · refine f_mob hf (fun r237 σ238 h1 hf => ?_)
    have hs := fun q j hq => (f_X10_of h1 q j (by unfold T_X10_of; exact id)).trans (hs q j hq)
    refine f_dv hf (fun hf => ?_)
    refine f_ite hf (fun hf => ?_) (fun hf => ?_)
    · exact fun q j hq => (f_X10_goAhead_b180 hf q j hq).trans (hs q j hq)
    · refine f_mob hf (fun r239 σ240 h1 hf => ?_)
      have hs := fun q j hq => (f_X10_turnBy h1 q j (by unfold T_X10_goAhead at hq; unfold T_X10_turnBy; omega)).trans (hs q j hq)
      exact fun q j hq => (f_X10_goAhead_b180 hf q j hq).trans (hs q j hq)
theorem f_X10_goAhead {F : Nat} {o : Nat} {r : Int} {σ' : mMem} {x1 : Int} {σ : mMem} (hf : g_X10_goAhead F o x1 σ = some (r, σ')) : ∀ q j, ¬ T_X10_goAhead o q j → σ' q j = σ q j := by
  unfold g_X10_goAhead at hf
  have hs : ∀ q j, ¬ T_X10_goAhead o q j → σ q j = σ q j := fun _ _ _ => rfl
  refine f_mob hf (fun r1 σ2 h1 hf => ?_)
  have hs := fun q j hq => (f_X10_of h1 q j (by unfold T_X10_of; exact id)).trans (hs q j hq)
  refine f_mob hf (fun r3 σ4 h1 hf => ?_)
  have hs := fun q j hq => (f_X10_of h1 q j (by unfold T_X10_of; exact id)).trans (hs q j hq)
  refine f_mob hf (fun r5 σ6 h1 hf => ?_)
  have hs := fun q j hq => (f_X10_columnStep h1 q j (by unfold T_X10_columnStep; exact id)).trans (hs q j hq)
  refine f_let hf (fun y7 hf => ?_)
  refine f_mob hf (fun r8 σ9 h1 hf => ?_)
  have hs := fun q j hq => (f_X10_of h1 q j (by unfold T_X10_of; exact id)).trans (hs q j hq)
  refine f_mob hf (fun r10 σ11 h1 hf => ?_)
  have hs := fun q j hq => (f_X10_of h1 q j (by unfold T_X10_of; exact id)).trans (hs q j hq)
  refine f_mob hf (fun r12 σ13 h1 hf => ?_)
  have hs := fun q j hq => (f_X10_rowStep h1 q j (by unfold T_X10_rowStep; exact id)).trans (hs q j hq)
  refine f_let hf (fun y14 hf => ?_)
  refine f_gp hf (fun hg15 hf => ?_)
  refine f_mob hf (fun r16 σ17 h1 hf => ?_)
  have hs := fun q j hq => (f_X5_hasCell h1 q j (by unfold T_X5_hasCell; exact id)).trans (hs q j hq)
  refine f_ite hf (fun hf => ?_) (fun hf => ?_)
  · exact fun q j hq => (f_X10_goAhead_b56 hf q j hq).trans (hs q j hq)
  · refine f_mob hf (fun r18 σ19 h1 hf => ?_)
    have hs := fun q j hq => (f_X10_boxOn h1 q j (by unfold T_X10_boxOn; exact id)).trans (hs q j hq)
    refine f_ite hf (fun hf => ?_) (fun hf => ?_)
    · refine f_mob hf (fun r20 σ21 h1 hf => ?_)
      have hs := fun q j hq => (f_X10_set h1 q j (by unfold T_X10_goAhead at hq; unfold T_X10_set; omega)).trans (hs q j hq)
      refine f_mob hf (fun r22 σ23 h1 hf => ?_)
      have hs := fun q j hq => (f_X10_set h1 q j (by unfold T_X10_goAhead at hq; unfold T_X10_set; omega)).trans (hs q j hq)
      refine f_mob hf (fun r24 σ25 h1 hf => ?_)
      have hs := fun q j hq => (f_X10_of h1 q j (by unfold T_X10_of; exact id)).trans (hs q j hq)
      refine f_dv hf (fun hf => ?_)
      refine f_mob hf (fun r26 σ27 h1 hf => ?_)
      have hs := fun q j hq => (f_X10_set h1 q j (by unfold T_X10_goAhead at hq; unfold T_X10_set; omega)).trans (hs q j hq)
      refine f_ite hf (fun hf => ?_) (fun hf => ?_)
      · exact fun q j hq => (f_X10_goAhead_b137 hf q j hq).trans (hs q j hq)
      · refine f_ite hf (fun hf => ?_) (fun hf => ?_)
        · exact fun q j hq => (f_X10_goAhead_b137 hf q j hq).trans (hs q j hq)
        · refine f_gd hf (fun hf => ?_)
          refine f_mem hf (fun q j hq => (mup_ne (by unfold T_X10_goAhead at hq; omega)).trans (hs q j hq)) (fun σ28 hs hf => ?_)
          exact fun q j hq => (f_X10_goAhead_b137 hf q j hq).trans (hs q j hq)
    · exact fun q j hq => (f_X10_goAhead_b56 hf q j hq).trans (hs q j hq)
def T_J9_max_7cf53  (q j : Nat) : Prop := False
theorem f_J9_max_7cf53_b10 {F : Nat}  {r : Int} {σ' : mMem}   {t0 : Int} {σ : mMem} (hf : g_J9_max_7cf53_b10 F t0 σ = some (r, σ')) : ∀ q j, ¬ T_J9_max_7cf53  q j → σ' q j = σ q j := by
  unfold g_J9_max_7cf53_b10 at hf
  have hs : ∀ q j, ¬ T_J9_max_7cf53  q j → σ q j = σ q j := fun _ _ _ => rfl
  cases hf
  exact hs
theorem f_J9_max_7cf53 {F : Nat}  {r : Int} {σ' : mMem} {x0 x1 : Int} {σ : mMem} (hf : g_J9_max_7cf53 F x0 x1 σ = some (r, σ')) : ∀ q j, ¬ T_J9_max_7cf53  q j → σ' q j = σ q j := by
  unfold g_J9_max_7cf53 at hf
  have hs : ∀ q j, ¬ T_J9_max_7cf53  q j → σ q j = σ q j := fun _ _ _ => rfl
  refine f_ite hf (fun hf => ?_) (fun hf => ?_)
  · exact fun q j hq => (f_J9_max_7cf53_b10 hf q j hq).trans (hs q j hq)
  · exact fun q j hq => (f_J9_max_7cf53_b10 hf q j hq).trans (hs q j hq)
def T_X5_greyAt (o : Nat) (q j : Nat) : Prop := False
theorem f_X5_greyAt_b35 {F : Nat} {o : Nat} {r : Int} {σ' : mMem}   {t0 : Int} {σ : mMem} (hf : g_X5_greyAt_b35 F o t0 σ = some (r, σ')) : ∀ q j, ¬ T_X5_greyAt o q j → σ' q j = σ q j := by
  unfold g_X5_greyAt_b35 at hf
  have hs : ∀ q j, ¬ T_X5_greyAt o q j → σ q j = σ q j := fun _ _ _ => rfl
  cases hf
  exact hs
theorem f_X5_greyAt_b34 {F : Nat} {o : Nat} {r : Int} {σ' : mMem}   {σ : mMem} (hf : g_X5_greyAt_b34 F o  σ = some (r, σ')) : ∀ q j, ¬ T_X5_greyAt o q j → σ' q j = σ q j := by
  unfold g_X5_greyAt_b34 at hf
  have hs : ∀ q j, ¬ T_X5_greyAt o q j → σ q j = σ q j := fun _ _ _ => rfl
  exact fun q j hq => (f_X5_greyAt_b35 hf q j hq).trans (hs q j hq)
theorem f_X5_greyAt {F : Nat} {o : Nat} {r : Int} {σ' : mMem} {x1 x2 : Int} {σ : mMem} (hf : g_X5_greyAt F o x1 x2 σ = some (r, σ')) : ∀ q j, ¬ T_X5_greyAt o q j → σ' q j = σ q j := by
  unfold g_X5_greyAt at hf
  have hs : ∀ q j, ¬ T_X5_greyAt o q j → σ q j = σ q j := fun _ _ _ => rfl
  refine f_let hf (fun y1 hf => ?_)
  refine f_mob hf (fun r2 σ3 h1 hf => ?_)
  have hs := fun q j hq => (f_X5_hasCell h1 q j (by unfold T_X5_hasCell; exact id)).trans (hs q j hq)
  refine f_ite hf (fun hf => ?_) (fun hf => ?_)
  · exact fun q j hq => (f_X5_greyAt_b34 hf q j hq).trans (hs q j hq)
  · refine f_ite hf (fun hf => ?_) (fun hf => ?_)
    · exact fun q j hq => (f_X5_greyAt_b34 hf q j hq).trans (hs q j hq)
    · refine f_gd hf (fun hf => ?_)
      exact fun q j hq => (f_X5_greyAt_b35 hf q j hq).trans (hs q j hq)
def T_X10_greySeen (o : Nat) (q j : Nat) : Prop := False
theorem f_X10_greySeen {F : Nat} {o : Nat} {r : Int} {σ' : mMem} {x1 x2 : Int} {σ : mMem} (hf : g_X10_greySeen F o x1 x2 σ = some (r, σ')) : ∀ q j, ¬ T_X10_greySeen o q j → σ' q j = σ q j := by
  unfold g_X10_greySeen at hf
  have hs : ∀ q j, ¬ T_X10_greySeen o q j → σ q j = σ q j := fun _ _ _ => rfl
  refine f_mob hf (fun r1 σ2 h1 hf => ?_)
  have hs := fun q j hq => (f_X10_of h1 q j (by unfold T_X10_of; exact id)).trans (hs q j hq)
  refine f_let hf (fun y3 hf => ?_)
  refine f_mob hf (fun r4 σ5 h1 hf => ?_)
  have hs := fun q j hq => (f_X10_of h1 q j (by unfold T_X10_of; exact id)).trans (hs q j hq)
  refine f_mob hf (fun r6 σ7 h1 hf => ?_)
  have hs := fun q j hq => (f_X10_of h1 q j (by unfold T_X10_of; exact id)).trans (hs q j hq)
  refine f_let hf (fun y8 hf => ?_)
  refine f_mob hf (fun r9 σ10 h1 hf => ?_)
  have hs := fun q j hq => (f_X10_of h1 q j (by unfold T_X10_of; exact id)).trans (hs q j hq)
  refine f_mob hf (fun r11 σ12 h1 hf => ?_)
  have hs := fun q j hq => (f_X10_columnStep h1 q j (by unfold T_X10_columnStep; exact id)).trans (hs q j hq)
  refine f_mob hf (fun r13 σ14 h1 hf => ?_)
  have hs := fun q j hq => (f_X10_columnStep h1 q j (by unfold T_X10_columnStep; exact id)).trans (hs q j hq)
  refine f_let hf (fun y15 hf => ?_)
  refine f_mob hf (fun r16 σ17 h1 hf => ?_)
  have hs := fun q j hq => (f_X10_of h1 q j (by unfold T_X10_of; exact id)).trans (hs q j hq)
  refine f_mob hf (fun r18 σ19 h1 hf => ?_)
  have hs := fun q j hq => (f_X10_rowStep h1 q j (by unfold T_X10_rowStep; exact id)).trans (hs q j hq)
  refine f_mob hf (fun r20 σ21 h1 hf => ?_)
  have hs := fun q j hq => (f_X10_rowStep h1 q j (by unfold T_X10_rowStep; exact id)).trans (hs q j hq)
  refine f_let hf (fun y22 hf => ?_)
  refine f_gp hf (fun hg23 hf => ?_)
  refine f_mob hf (fun r24 σ25 h1 hf => ?_)
  have hs := fun q j hq => (f_X5_greyAt h1 q j (by unfold T_X5_greyAt; exact id)).trans (hs q j hq)
  refine f_mob hf (fun r26 σ27 h1 hf => ?_)
  have hs := fun q j hq => (f_J9_max_7cf53 h1 q j (by unfold T_J9_max_7cf53; exact id)).trans (hs q j hq)
  cases hf
  exact hs
def T_J9_max_f86c9  (q j : Nat) : Prop := False
theorem f_J9_max_f86c9_b11 {F : Nat}  {r : Int} {σ' : mMem}   {t0 : Int} {σ : mMem} (hf : g_J9_max_f86c9_b11 F t0 σ = some (r, σ')) : ∀ q j, ¬ T_J9_max_f86c9  q j → σ' q j = σ q j := by
  unfold g_J9_max_f86c9_b11 at hf
  have hs : ∀ q j, ¬ T_J9_max_f86c9  q j → σ q j = σ q j := fun _ _ _ => rfl
  cases hf
  exact hs
theorem f_J9_max_f86c9 {F : Nat}  {r : Int} {σ' : mMem} {x0 x2 : Int} {σ : mMem} (hf : g_J9_max_f86c9 F x0 x2 σ = some (r, σ')) : ∀ q j, ¬ T_J9_max_f86c9  q j → σ' q j = σ q j := by
  unfold g_J9_max_f86c9 at hf
  have hs : ∀ q j, ¬ T_J9_max_f86c9  q j → σ q j = σ q j := fun _ _ _ => rfl
  refine f_ite hf (fun hf => ?_) (fun hf => ?_)
  · exact fun q j hq => (f_J9_max_f86c9_b11 hf q j hq).trans (hs q j hq)
  · exact fun q j hq => (f_J9_max_f86c9_b11 hf q j hq).trans (hs q j hq)
def T_J9_min_f86c9  (q j : Nat) : Prop := False
theorem f_J9_min_f86c9_b11 {F : Nat}  {r : Int} {σ' : mMem}   {t0 : Int} {σ : mMem} (hf : g_J9_min_f86c9_b11 F t0 σ = some (r, σ')) : ∀ q j, ¬ T_J9_min_f86c9  q j → σ' q j = σ q j := by
  unfold g_J9_min_f86c9_b11 at hf
  have hs : ∀ q j, ¬ T_J9_min_f86c9  q j → σ q j = σ q j := fun _ _ _ => rfl
  cases hf
  exact hs
theorem f_J9_min_f86c9 {F : Nat}  {r : Int} {σ' : mMem} {x0 x2 : Int} {σ : mMem} (hf : g_J9_min_f86c9 F x0 x2 σ = some (r, σ')) : ∀ q j, ¬ T_J9_min_f86c9  q j → σ' q j = σ q j := by
  unfold g_J9_min_f86c9 at hf
  have hs : ∀ q j, ¬ T_J9_min_f86c9  q j → σ q j = σ q j := fun _ _ _ => rfl
  refine f_ite hf (fun hf => ?_) (fun hf => ?_)
  · exact fun q j hq => (f_J9_min_f86c9_b11 hf q j hq).trans (hs q j hq)
  · exact fun q j hq => (f_J9_min_f86c9_b11 hf q j hq).trans (hs q j hq)
def T_J9_floorDiv_f86c9  (q j : Nat) : Prop := False
theorem f_J9_floorDiv_f86c9_b27 {F : Nat}  {r : Int} {σ' : mMem}   {x4 : Int} {σ : mMem} (hf : g_J9_floorDiv_f86c9_b27 F x4 σ = some (r, σ')) : ∀ q j, ¬ T_J9_floorDiv_f86c9  q j → σ' q j = σ q j := by
  unfold g_J9_floorDiv_f86c9_b27 at hf
  have hs : ∀ q j, ¬ T_J9_floorDiv_f86c9  q j → σ q j = σ q j := fun _ _ _ => rfl
  cases hf
  exact hs
theorem f_J9_floorDiv_f86c9 {F : Nat}  {r : Int} {σ' : mMem} {x0 x2 : Int} {σ : mMem} (hf : g_J9_floorDiv_f86c9 F x0 x2 σ = some (r, σ')) : ∀ q j, ¬ T_J9_floorDiv_f86c9  q j → σ' q j = σ q j := by
  unfold g_J9_floorDiv_f86c9 at hf
  have hs : ∀ q j, ¬ T_J9_floorDiv_f86c9  q j → σ q j = σ q j := fun _ _ _ => rfl
  refine f_dv hf (fun hf => ?_)
  refine f_let hf (fun y1 hf => ?_)
  refine f_ite hf (fun hf => ?_) (fun hf => ?_)
  · exact fun q j hq => (f_J9_floorDiv_f86c9_b27 hf q j hq).trans (hs q j hq)
  · refine f_ite hf (fun hf => ?_) (fun hf => ?_)
    · exact fun q j hq => (f_J9_floorDiv_f86c9_b27 hf q j hq).trans (hs q j hq)
    · cases hf
      exact hs
def T_J9_floorMod_f86c9  (q j : Nat) : Prop := False
theorem f_J9_floorMod_f86c9_b25 {F : Nat}  {r : Int} {σ' : mMem}   {x4 : Int} {σ : mMem} (hf : g_J9_floorMod_f86c9_b25 F x4 σ = some (r, σ')) : ∀ q j, ¬ T_J9_floorMod_f86c9  q j → σ' q j = σ q j := by
  unfold g_J9_floorMod_f86c9_b25 at hf
  have hs : ∀ q j, ¬ T_J9_floorMod_f86c9  q j → σ q j = σ q j := fun _ _ _ => rfl
  cases hf
  exact hs
theorem f_J9_floorMod_f86c9 {F : Nat}  {r : Int} {σ' : mMem} {x0 x2 : Int} {σ : mMem} (hf : g_J9_floorMod_f86c9 F x0 x2 σ = some (r, σ')) : ∀ q j, ¬ T_J9_floorMod_f86c9  q j → σ' q j = σ q j := by
  unfold g_J9_floorMod_f86c9 at hf
  have hs : ∀ q j, ¬ T_J9_floorMod_f86c9  q j → σ q j = σ q j := fun _ _ _ => rfl
  refine f_dv hf (fun hf => ?_)
  refine f_let hf (fun y1 hf => ?_)
  refine f_ite hf (fun hf => ?_) (fun hf => ?_)
  · exact fun q j hq => (f_J9_floorMod_f86c9_b25 hf q j hq).trans (hs q j hq)
  · refine f_ite hf (fun hf => ?_) (fun hf => ?_)
    · exact fun q j hq => (f_J9_floorMod_f86c9_b25 hf q j hq).trans (hs q j hq)
    · cases hf
      exact hs
def T_X2_joined  (q j : Nat) : Prop := False
theorem f_X2_joined_b211 {F : Nat}  {r : Int} {σ' : mMem}   {t0 : Int} {σ : mMem} (hf : g_X2_joined_b211 F t0 σ = some (r, σ')) : ∀ q j, ¬ T_X2_joined  q j → σ' q j = σ q j := by
  unfold g_X2_joined_b211 at hf
  have hs : ∀ q j, ¬ T_X2_joined  q j → σ q j = σ q j := fun _ _ _ => rfl
  cases hf
  exact hs
theorem f_X2_joined_b99 {F : Nat}  {r : Int} {σ' : mMem}   {t0 : Int} {σ : mMem} (hf : g_X2_joined_b99 F t0 σ = some (r, σ')) : ∀ q j, ¬ T_X2_joined  q j → σ' q j = σ q j := by
  unfold g_X2_joined_b99 at hf
  have hs : ∀ q j, ¬ T_X2_joined  q j → σ q j = σ q j := fun _ _ _ => rfl
  cases hf
  exact hs
theorem f_X2_joined_b115 {F : Nat}  {r : Int} {σ' : mMem}   {t0 : Int} {σ : mMem} (hf : g_X2_joined_b115 F t0 σ = some (r, σ')) : ∀ q j, ¬ T_X2_joined  q j → σ' q j = σ q j := by
  unfold g_X2_joined_b115 at hf
  have hs : ∀ q j, ¬ T_X2_joined  q j → σ q j = σ q j := fun _ _ _ => rfl
  cases hf
  exact hs
theorem f_X2_joined_b139 {F : Nat}  {r : Int} {σ' : mMem}   {t0 : Int} {σ : mMem} (hf : g_X2_joined_b139 F t0 σ = some (r, σ')) : ∀ q j, ¬ T_X2_joined  q j → σ' q j = σ q j := by
  unfold g_X2_joined_b139 at hf
  have hs : ∀ q j, ¬ T_X2_joined  q j → σ q j = σ q j := fun _ _ _ => rfl
  cases hf
  exact hs
theorem f_X2_joined_b151 {F : Nat}  {r : Int} {σ' : mMem}   {t0 : Int} {σ : mMem} (hf : g_X2_joined_b151 F t0 σ = some (r, σ')) : ∀ q j, ¬ T_X2_joined  q j → σ' q j = σ q j := by
  unfold g_X2_joined_b151 at hf
  have hs : ∀ q j, ¬ T_X2_joined  q j → σ q j = σ q j := fun _ _ _ => rfl
  cases hf
  exact hs
theorem f_X2_joined_b163 {F : Nat}  {r : Int} {σ' : mMem}   {t0 : Int} {σ : mMem} (hf : g_X2_joined_b163 F t0 σ = some (r, σ')) : ∀ q j, ¬ T_X2_joined  q j → σ' q j = σ q j := by
  unfold g_X2_joined_b163 at hf
  have hs : ∀ q j, ¬ T_X2_joined  q j → σ q j = σ q j := fun _ _ _ => rfl
  cases hf
  exact hs
theorem f_X2_joined_b181 {F : Nat}  {r : Int} {σ' : mMem}   {t0 : Int} {σ : mMem} (hf : g_X2_joined_b181 F t0 σ = some (r, σ')) : ∀ q j, ¬ T_X2_joined  q j → σ' q j = σ q j := by
  unfold g_X2_joined_b181 at hf
  have hs : ∀ q j, ¬ T_X2_joined  q j → σ q j = σ q j := fun _ _ _ => rfl
  cases hf
  exact hs
theorem f_X2_joined_b180 {F : Nat}  {r : Int} {σ' : mMem}   {σ : mMem} (hf : g_X2_joined_b180 F  σ = some (r, σ')) : ∀ q j, ¬ T_X2_joined  q j → σ' q j = σ q j := by
  unfold g_X2_joined_b180 at hf
  have hs : ∀ q j, ¬ T_X2_joined  q j → σ q j = σ q j := fun _ _ _ => rfl
  exact fun q j hq => (f_X2_joined_b181 hf q j hq).trans (hs q j hq)
theorem f_X2_joined_b199 {F : Nat}  {r : Int} {σ' : mMem}   {t0 : Int} {σ : mMem} (hf : g_X2_joined_b199 F t0 σ = some (r, σ')) : ∀ q j, ¬ T_X2_joined  q j → σ' q j = σ q j := by
  unfold g_X2_joined_b199 at hf
  have hs : ∀ q j, ¬ T_X2_joined  q j → σ q j = σ q j := fun _ _ _ => rfl
  cases hf
  exact hs
theorem f_X2_joined_b194 {F : Nat}  {r : Int} {σ' : mMem}   {σ : mMem} (hf : g_X2_joined_b194 F  σ = some (r, σ')) : ∀ q j, ¬ T_X2_joined  q j → σ' q j = σ q j := by
  unfold g_X2_joined_b194 at hf
  have hs : ∀ q j, ¬ T_X2_joined  q j → σ q j = σ q j := fun _ _ _ => rfl
  exact fun q j hq => (f_X2_joined_b199 hf q j hq).trans (hs q j hq)
theorem f_X2_joined {F : Nat}  {r : Int} {σ' : mMem} {x0 x1 x3 : Int} {σ : mMem} (hf : g_X2_joined F x0 x1 x3 σ = some (r, σ')) : ∀ q j, ¬ T_X2_joined  q j → σ' q j = σ q j := by
  unfold g_X2_joined at hf
  have hs : ∀ q j, ¬ T_X2_joined  q j → σ q j = σ q j := fun _ _ _ => rfl
  refine f_ite hf (fun hf => ?_) (fun hf => ?_)
  · refine f_ite hf (fun hf => ?_) (fun hf => ?_)
    · exact fun q j hq => (f_X2_joined_b211 hf q j hq).trans (hs q j hq)
    · exact fun q j hq => (f_X2_joined_b211 hf q j hq).trans (hs q j hq)
  refine f_ite hf (fun hf => ?_) (fun hf => ?_)
  · cases hf
    exact hs
  refine f_ite hf (fun hf => ?_) (fun hf => ?_)
  · cases hf
    exact hs
  refine f_ite hf (fun hf => ?_) (fun hf => ?_)
  · cases hf
    exact hs
  refine f_ite hf (fun hf => ?_) (fun hf => ?_)
  · refine f_ite hf (fun hf => ?_) (fun hf => ?_)
    · refine f_mob hf (fun r1 σ2 h1 hf => ?_)
      have hs := fun q j hq => (f_J9_floorDiv_f86c9 h1 q j (by unfold T_J9_floorDiv_f86c9; exact id)).trans (hs q j hq)
      exact fun q j hq => (f_X2_joined_b99 hf q j hq).trans (hs q j hq)
    · exact fun q j hq => (f_X2_joined_b99 hf q j hq).trans (hs q j hq)
  refine f_ite hf (fun hf => ?_) (fun hf => ?_)
  · refine f_ite hf (fun hf => ?_) (fun hf => ?_)
    · refine f_mob hf (fun r3 σ4 h1 hf => ?_)
      have hs := fun q j hq => (f_J9_floorMod_f86c9 h1 q j (by unfold T_J9_floorMod_f86c9; exact id)).trans (hs q j hq)
      exact fun q j hq => (f_X2_joined_b115 hf q j hq).trans (hs q j hq)
    · exact fun q j hq => (f_X2_joined_b115 hf q j hq).trans (hs q j hq)
  refine f_ite hf (fun hf => ?_) (fun hf => ?_)
  · refine f_mob hf (fun r5 σ6 h1 hf => ?_)
    have hs := fun q j hq => (f_J9_min_f86c9 h1 q j (by unfold T_J9_min_f86c9; exact id)).trans (hs q j hq)
    cases hf
    exact hs
  refine f_ite hf (fun hf => ?_) (fun hf => ?_)
  · refine f_mob hf (fun r7 σ8 h1 hf => ?_)
    have hs := fun q j hq => (f_J9_max_f86c9 h1 q j (by unfold T_J9_max_f86c9; exact id)).trans (hs q j hq)
    cases hf
    exact hs
  refine f_ite hf (fun hf => ?_) (fun hf => ?_)
  · refine f_ite hf (fun hf => ?_) (fun hf => ?_)
    · exact fun q j hq => (f_X2_joined_b139 hf q j hq).trans (hs q j hq)
    · exact fun q j hq => (f_X2_joined_b139 hf q j hq).trans (hs q j hq)
  refine f_ite hf (fun hf => ?_) (fun hf => ?_)
  · refine f_ite hf (fun hf => ?_) (fun hf => ?_)
    · exact fun q j hq => (f_X2_joined_b151 hf q j hq).trans (hs q j hq)
    · exact fun q j hq => (f_X2_joined_b151 hf q j hq).trans (hs q j hq)
  refine f_ite hf (fun hf => ?_) (fun hf => ?_)
  · refine f_ite hf (fun hf => ?_) (fun hf => ?_)
    · exact fun q j hq => (f_X2_joined_b163 hf q j hq).trans (hs q j hq)
    · exact fun q j hq => (f_X2_joined_b163 hf q j hq).trans (hs q j hq)
  refine f_ite hf (fun hf => ?_) (fun hf => ?_)
  · refine f_ite hf (fun hf => ?_) (fun hf => ?_)
    · exact fun q j hq => (f_X2_joined_b180 hf q j hq).trans (hs q j hq)
    · refine f_ite hf (fun hf => ?_) (fun hf => ?_)
      · exact fun q j hq => (f_X2_joined_b180 hf q j hq).trans (hs q j hq)
      · exact fun q j hq => (f_X2_joined_b181 hf q j hq).trans (hs q j hq)
  refine f_ite hf (fun hf => ?_) (fun hf => ?_)
  · refine f_ite hf (fun hf => ?_) (fun hf => ?_)
    · exact fun q j hq => (f_X2_joined_b194 hf q j hq).trans (hs q j hq)
    · refine f_ite hf (fun hf => ?_) (fun hf => ?_)
      · exact fun q j hq => (f_X2_joined_b199 hf q j hq).trans (hs q j hq)
      · exact fun q j hq => (f_X2_joined_b194 hf q j hq).trans (hs q j hq)
  refine f_ite hf (fun hf => ?_) (fun hf => ?_)
  · cases hf
    exact hs
  cases hf
  exact hs
def T_X2_needsOf  (q j : Nat) : Prop := False
theorem f_X2_needsOf_b25 {F : Nat}  {r : Int} {σ' : mMem}   {t0 : Int} {σ : mMem} (hf : g_X2_needsOf_b25 F t0 σ = some (r, σ')) : ∀ q j, ¬ T_X2_needsOf  q j → σ' q j = σ q j := by
  unfold g_X2_needsOf_b25 at hf
  have hs : ∀ q j, ¬ T_X2_needsOf  q j → σ q j = σ q j := fun _ _ _ => rfl
  cases hf
  exact hs
theorem f_X2_needsOf {F : Nat}  {r : Int} {σ' : mMem} {x0 : Int} {σ : mMem} (hf : g_X2_needsOf F x0 σ = some (r, σ')) : ∀ q j, ¬ T_X2_needsOf  q j → σ' q j = σ q j := by
  unfold g_X2_needsOf at hf
  have hs : ∀ q j, ¬ T_X2_needsOf  q j → σ q j = σ q j := fun _ _ _ => rfl
  refine f_ite hf (fun hf => ?_) (fun hf => ?_)
  · refine f_ite hf (fun hf => ?_) (fun hf => ?_)
    · refine f_ite hf (fun hf => ?_) (fun hf => ?_)
      · exact fun q j hq => (f_X2_needsOf_b25 hf q j hq).trans (hs q j hq)
      · exact fun q j hq => (f_X2_needsOf_b25 hf q j hq).trans (hs q j hq)
    · cases hf
      exact hs
  · cases hf
    exact hs
def T_X2_valueOf (o : Nat) (p1 : Nat) (q j : Nat) : Prop := q = (o + 2)
theorem f_X2_valueOf_b231 {F : Nat} {o : Nat} {p1 : Nat} {r : Int} {σ' : mMem}   {t0 : Int} {σ : mMem} (hf : g_X2_valueOf_b231 F o p1 t0 σ = some (r, σ')) : ∀ q j, ¬ T_X2_valueOf o p1 q j → σ' q j = σ q j := by
  unfold g_X2_valueOf_b231 at hf
  have hs : ∀ q j, ¬ T_X2_valueOf o p1 q j → σ q j = σ q j := fun _ _ _ => rfl
  cases hf
  exact hs
theorem f_X2_valueOf_b215 {F : Nat} {o : Nat} {p1 : Nat} {r : Int} {σ' : mMem}   {x4 : Int} {σ : mMem} (hf : g_X2_valueOf_b215 F o p1 x4 σ = some (r, σ')) : ∀ q j, ¬ T_X2_valueOf o p1 q j → σ' q j = σ q j := by
  unfold g_X2_valueOf_b215 at hf
  have hs : ∀ q j, ¬ T_X2_valueOf o p1 q j → σ q j = σ q j := fun _ _ _ => rfl
  refine f_ite hf (fun hf => ?_) (fun hf => ?_)
  · exact fun q j hq => (f_X2_valueOf_b231 hf q j hq).trans (hs q j hq)
  · refine f_gd hf (fun hf => ?_)
    exact fun q j hq => (f_X2_valueOf_b231 hf q j hq).trans (hs q j hq)
theorem f_X2_valueOf_b67 {F : Nat} {o : Nat} {p1 : Nat} {r : Int} {σ' : mMem}   {σ : mMem} (hf : g_X2_valueOf_b67 F o p1  σ = some (r, σ')) : ∀ q j, ¬ T_X2_valueOf o p1 q j → σ' q j = σ q j := by
  unfold g_X2_valueOf_b67 at hf
  have hs : ∀ q j, ¬ T_X2_valueOf o p1 q j → σ q j = σ q j := fun _ _ _ => rfl
  cases hf
  exact hs
theorem f_X2_valueOf_b171 {F : Nat} {o : Nat} {p1 : Nat} {r : Int} {σ' : mMem} {k10 : Int → Int → Int → mMem → mRs} (hk10 : ∀ (x3 x4 x5 : Int) (σ : mMem), k10 x3 x4 x5 σ = some (r, σ') → ∀ q j, ¬ T_X2_valueOf o p1 q j → σ' q j = σ q j) {x3 x4 x5 x6 x8 x9 : Int} {σ : mMem} (hf : g_X2_valueOf_b171 F o p1 k10 x3 x4 x5 x6 x8 x9 σ = some (r, σ')) : ∀ q j, ¬ T_X2_valueOf o p1 q j → σ' q j = σ q j := by
  unfold g_X2_valueOf_b171 at hf
  have hs : ∀ q j, ¬ T_X2_valueOf o p1 q j → σ q j = σ q j := fun _ _ _ => rfl
  refine f_mob hf (fun r810 σ811 h1 hf => ?_)
  have hs := fun q j hq => (f_X2_joined h1 q j (by unfold T_X2_joined; exact id)).trans (hs q j hq)
  refine f_mob hf (fun r812 σ813 h1 hf => ?_)
  have hs := fun q j hq => (f_J9_min_f86c9 h1 q j (by unfold T_J9_min_f86c9; exact id)).trans (hs q j hq)
  refine f_mob hf (fun r814 σ815 h1 hf => ?_)
  have hs := fun q j hq => (f_J9_max_f86c9 h1 q j (by unfold T_J9_max_f86c9; exact id)).trans (hs q j hq)
  refine f_gd hf (fun hf => ?_)
  refine f_mem hf (fun q j hq => (mup_ne (by unfold T_X2_valueOf at hq; omega)).trans (hs q j hq)) (fun σ816 hs hf => ?_)
  exact fun q j hq => (hk10 _ _ _ _ hf q j hq).trans (hs q j hq)
theorem f_X2_valueOf_b169 {F : Nat} {o : Nat} {p1 : Nat} {r : Int} {σ' : mMem} {k10 : Int → Int → Int → mMem → mRs} (hk10 : ∀ (x3 x4 x5 : Int) (σ : mMem), k10 x3 x4 x5 σ = some (r, σ') → ∀ q j, ¬ T_X2_valueOf o p1 q j → σ' q j = σ q j) {x3 x4 x5 x6 x8 t0 : Int} {σ : mMem} (hf : g_X2_valueOf_b169 F o p1 k10 x3 x4 x5 x6 x8 t0 σ = some (r, σ')) : ∀ q j, ¬ T_X2_valueOf o p1 q j → σ' q j = σ q j := by
  unfold g_X2_valueOf_b169 at hf
  have hs : ∀ q j, ¬ T_X2_valueOf o p1 q j → σ q j = σ q j := fun _ _ _ => rfl
  exact fun q j hq => (f_X2_valueOf_b171 hk10 hf q j hq).trans (hs q j hq)
theorem f_X2_valueOf_b143 {F : Nat} {o : Nat} {p1 : Nat} {r : Int} {σ' : mMem} {k10 : Int → Int → Int → mMem → mRs} (hk10 : ∀ (x3 x4 x5 : Int) (σ : mMem), k10 x3 x4 x5 σ = some (r, σ') → ∀ q j, ¬ T_X2_valueOf o p1 q j → σ' q j = σ q j) {x3 x4 x5 x6 x8 x9 : Int} {σ : mMem} (hf : g_X2_valueOf_b143 F o p1 k10 x3 x4 x5 x6 x8 x9 σ = some (r, σ')) : ∀ q j, ¬ T_X2_valueOf o p1 q j → σ' q j = σ q j := by
  unfold g_X2_valueOf_b143 at hf
  have hs : ∀ q j, ¬ T_X2_valueOf o p1 q j → σ q j = σ q j := fun _ _ _ => rfl
  refine f_ite hf (fun hf => ?_) (fun hf => ?_)
  · exact fun q j hq => (f_X2_valueOf_b171 hk10 hf q j hq).trans (hs q j hq)
  · refine f_ite hf (fun hf => ?_) (fun hf => ?_)
    · refine f_gd hf (fun hf => ?_)
      exact fun q j hq => (f_X2_valueOf_b169 hk10 hf q j hq).trans (hs q j hq)
    · exact fun q j hq => (f_X2_valueOf_b169 hk10 hf q j hq).trans (hs q j hq)
theorem f_X2_valueOf_b141 {F : Nat} {o : Nat} {p1 : Nat} {r : Int} {σ' : mMem} {k10 : Int → Int → Int → mMem → mRs} (hk10 : ∀ (x3 x4 x5 : Int) (σ : mMem), k10 x3 x4 x5 σ = some (r, σ') → ∀ q j, ¬ T_X2_valueOf o p1 q j → σ' q j = σ q j) {x3 x4 x5 x6 x9 t0 : Int} {σ : mMem} (hf : g_X2_valueOf_b141 F o p1 k10 x3 x4 x5 x6 x9 t0 σ = some (r, σ')) : ∀ q j, ¬ T_X2_valueOf o p1 q j → σ' q j = σ q j := by
  unfold g_X2_valueOf_b141 at hf
  have hs : ∀ q j, ¬ T_X2_valueOf o p1 q j → σ q j = σ q j := fun _ _ _ => rfl
  exact fun q j hq => (f_X2_valueOf_b143 hk10 hf q j hq).trans (hs q j hq)
theorem f_X2_valueOf_b114 {F : Nat} {o : Nat} {p1 : Nat} {r : Int} {σ' : mMem} {k10 : Int → Int → Int → mMem → mRs} (hk10 : ∀ (x3 x4 x5 : Int) (σ : mMem), k10 x3 x4 x5 σ = some (r, σ') → ∀ q j, ¬ T_X2_valueOf o p1 q j → σ' q j = σ q j) {x3 x4 x5 x6 x8 x9 : Int} {σ : mMem} (hf : g_X2_valueOf_b114 F o p1 k10 x3 x4 x5 x6 x8 x9 σ = some (r, σ')) : ∀ q j, ¬ T_X2_valueOf o p1 q j → σ' q j = σ q j := by
  unfold g_X2_valueOf_b114 at hf
  have hs : ∀ q j, ¬ T_X2_valueOf o p1 q j → σ q j = σ q j := fun _ _ _ => rfl
  refine f_ite hf (fun hf => ?_) (fun hf => ?_)
  · exact fun q j hq => (f_X2_valueOf_b143 hk10 hf q j hq).trans (hs q j hq)
  · refine f_ite hf (fun hf => ?_) (fun hf => ?_)
    · exact fun q j hq => (f_X2_valueOf_b141 hk10 hf q j hq).trans (hs q j hq)
    · refine f_gd hf (fun hf => ?_)
      exact fun q j hq => (f_X2_valueOf_b141 hk10 hf q j hq).trans (hs q j hq)
theorem f_X2_valueOf_h10 {F : Nat} {o : Nat} {p1 : Nat} {r : Int} {σ' : mMem}   (n : Nat) : ∀ {x3 x4 x5 : Int} {σ : mMem} (_ : g_X2_valueOf_h10 F o p1 n x3 x4 x5 σ = some (r, σ')), ∀ q j, ¬ T_X2_valueOf o p1 q j → σ' q j = σ q j := by
  induction n with
  | zero =>
    intro x3 x4 x5 σ hf
    unfold g_X2_valueOf_h10 at hf
    cases hf
  | succ n ih =>
    have hk10 : ∀ (x3 x4 x5 : Int) (σ : mMem), g_X2_valueOf_h10 F o p1 n x3 x4 x5 σ = some (r, σ') → ∀ q j, ¬ T_X2_valueOf o p1 q j → σ' q j = σ q j := fun x3 x4 x5 σ hf => ih hf
    intro x3 x4 x5 σ hf
    unfold g_X2_valueOf_h10 at hf
    have hs : ∀ q j, ¬ T_X2_valueOf o p1 q j → σ q j = σ q j := fun _ _ _ => rfl
    refine f_ite hf (fun hf => ?_) (fun hf => ?_)
    · exact fun q j hq => (f_X2_valueOf_b215 hf q j hq).trans (hs q j hq)
    · refine f_ite hf (fun hf => ?_) (fun hf => ?_)
      · exact fun q j hq => (f_X2_valueOf_b215 hf q j hq).trans (hs q j hq)
      · refine f_gd hf (fun hf => ?_)
        refine f_dv hf (fun hf => ?_)
        refine f_let hf (fun y103 hf => ?_)
        refine f_mob hf (fun r104 σ105 h1 hf => ?_)
        have hs := fun q j hq => (f_X2_needsOf h1 q j (by unfold T_X2_needsOf; exact id)).trans (hs q j hq)
        refine f_ite hf (fun hf => ?_) (fun hf => ?_)
        · exact fun q j hq => (f_X2_valueOf_b67 hf q j hq).trans (hs q j hq)
        · refine f_ite hf (fun hf => ?_) (fun hf => ?_)
          · refine f_let hf (fun y106 hf => ?_)
            refine f_gd hf (fun hf => ?_)
            refine f_let hf (fun y107 hf => ?_)
            refine f_gd hf (fun hf => ?_)
            refine f_let hf (fun y108 hf => ?_)
            refine f_ite hf (fun hf => ?_) (fun hf => ?_)
            · exact fun q j hq => (f_X2_valueOf_b114 hk10 hf q j hq).trans (hs q j hq)
            · refine f_gd hf (fun hf => ?_)
              refine f_dv hf (fun hf => ?_)
              refine f_let hf (fun y109 hf => ?_)
              exact fun q j hq => (f_X2_valueOf_b114 hk10 hf q j hq).trans (hs q j hq)
          · exact fun q j hq => (f_X2_valueOf_b67 hf q j hq).trans (hs q j hq)
theorem f_X2_valueOf {F : Nat} {o : Nat} {p1 : Nat} {r : Int} {σ' : mMem} {x2 x3 : Int} {σ : mMem} (hf : g_X2_valueOf F o p1 x2 x3 σ = some (r, σ')) : ∀ q j, ¬ T_X2_valueOf o p1 q j → σ' q j = σ q j := by
  unfold g_X2_valueOf at hf
  have hs : ∀ q j, ¬ T_X2_valueOf o p1 q j → σ q j = σ q j := fun _ _ _ => rfl
  refine f_mob hf (fun r1 σ2 h1 hf => ?_)
  have hs := fun q j hq => (f_J9_max_7cf53 h1 q j (by unfold T_J9_max_7cf53; exact id)).trans (hs q j hq)
  exact fun q j hq => (f_X2_valueOf_h10 _ hf q j hq).trans (hs q j hq)
def T_X5_hasGoes (o : Nat) (q j : Nat) : Prop := False
theorem f_X5_hasGoes_b16 {F : Nat} {o : Nat} {r : Int} {σ' : mMem}   {t0 : Int} {σ : mMem} (hf : g_X5_hasGoes_b16 F o t0 σ = some (r, σ')) : ∀ q j, ¬ T_X5_hasGoes o q j → σ' q j = σ q j := by
  unfold g_X5_hasGoes_b16 at hf
  have hs : ∀ q j, ¬ T_X5_hasGoes o q j → σ q j = σ q j := fun _ _ _ => rfl
  refine f_gd hf (fun hf => ?_)
  cases hf
  exact hs
theorem f_X5_hasGoes {F : Nat} {o : Nat} {r : Int} {σ' : mMem} {σ : mMem} (hf : g_X5_hasGoes F o σ = some (r, σ')) : ∀ q j, ¬ T_X5_hasGoes o q j → σ' q j = σ q j := by
  unfold g_X5_hasGoes at hf
  have hs : ∀ q j, ¬ T_X5_hasGoes o q j → σ q j = σ q j := fun _ _ _ => rfl
  refine f_ite hf (fun hf => ?_) (fun hf => ?_)
  · exact fun q j hq => (f_X5_hasGoes_b16 hf q j hq).trans (hs q j hq)
  · exact fun q j hq => (f_X5_hasGoes_b16 hf q j hq).trans (hs q j hq)
def T_X5_hasSteers (o : Nat) (q j : Nat) : Prop := False
theorem f_X5_hasSteers_b16 {F : Nat} {o : Nat} {r : Int} {σ' : mMem}   {t0 : Int} {σ : mMem} (hf : g_X5_hasSteers_b16 F o t0 σ = some (r, σ')) : ∀ q j, ¬ T_X5_hasSteers o q j → σ' q j = σ q j := by
  unfold g_X5_hasSteers_b16 at hf
  have hs : ∀ q j, ¬ T_X5_hasSteers o q j → σ q j = σ q j := fun _ _ _ => rfl
  refine f_gd hf (fun hf => ?_)
  cases hf
  exact hs
theorem f_X5_hasSteers {F : Nat} {o : Nat} {r : Int} {σ' : mMem} {σ : mMem} (hf : g_X5_hasSteers F o σ = some (r, σ')) : ∀ q j, ¬ T_X5_hasSteers o q j → σ' q j = σ q j := by
  unfold g_X5_hasSteers at hf
  have hs : ∀ q j, ¬ T_X5_hasSteers o q j → σ q j = σ q j := fun _ _ _ => rfl
  refine f_ite hf (fun hf => ?_) (fun hf => ?_)
  · exact fun q j hq => (f_X5_hasSteers_b16 hf q j hq).trans (hs q j hq)
  · exact fun q j hq => (f_X5_hasSteers_b16 hf q j hq).trans (hs q j hq)
def T_X10_moveBox (o : Nat) (q j : Nat) : Prop := (q = o ∧ (j = 6 ∨ j = 7)) ∨ q = (o + 1) ∨ q = (o + 2) ∨ q = (o + 4) ∨ q = (o + 5)
theorem f_X10_moveBox_b272 {F : Nat} {o : Nat} {r : Int} {σ' : mMem}   {x1 : Int} {σ : mMem} (hf : g_X10_moveBox_b272 F o x1 σ = some (r, σ')) : ∀ q j, ¬ T_X10_moveBox o q j → σ' q j = σ q j := by
  unfold g_X10_moveBox_b272 at hf
  have hs : ∀ q j, ¬ T_X10_moveBox o q j → σ q j = σ q j := fun _ _ _ => rfl
  refine f_mob hf (fun r843 σ844 h1 hf => ?_)
  have hs := fun q j hq => (f_X10_of h1 q j (by unfold T_X10_of; exact id)).trans (hs q j hq)
  refine f_mob hf (fun r845 σ846 h1 hf => ?_)
  have hs := fun q j hq => (f_X10_set h1 q j (by unfold T_X10_moveBox at hq; unfold T_X10_set; omega)).trans (hs q j hq)
  cases hf
  exact hs
theorem f_X10_moveBox_b267 {F : Nat} {o : Nat} {r : Int} {σ' : mMem}   {x1 : Int} {σ : mMem} (hf : g_X10_moveBox_b267 F o x1 σ = some (r, σ')) : ∀ q j, ¬ T_X10_moveBox o q j → σ' q j = σ q j := by
  unfold g_X10_moveBox_b267 at hf
  have hs : ∀ q j, ¬ T_X10_moveBox o q j → σ q j = σ q j := fun _ _ _ => rfl
  refine f_mob hf (fun r947 σ948 h1 hf => ?_)
  have hs := fun q j hq => (f_X10_goAhead h1 q j (by unfold T_X10_moveBox at hq; unfold T_X10_goAhead; omega)).trans (hs q j hq)
  exact fun q j hq => (f_X10_moveBox_b272 hf q j hq).trans (hs q j hq)
theorem f_X10_moveBox_b228 {F : Nat} {o : Nat} {r : Int} {σ' : mMem}   {x1 t0 t1 : Int} {σ : mMem} (hf : g_X10_moveBox_b228 F o x1 t0 t1 σ = some (r, σ')) : ∀ q j, ¬ T_X10_moveBox o q j → σ' q j = σ q j := by
  unfold g_X10_moveBox_b228 at hf
  have hs : ∀ q j, ¬ T_X10_moveBox o q j → σ q j = σ q j := fun _ _ _ => rfl
  refine f_gd hf (fun hf => ?_)
  refine f_mem hf (fun q j hq => (mup_ne (by unfold T_X10_moveBox at hq; omega)).trans (hs q j hq)) (fun σ734 hs hf => ?_)
  refine f_gp hf (fun hg735 hf => ?_)
  refine f_mob hf (fun r736 σ737 h1 hf => ?_)
  have hs := fun q j hq => (f_X5_hasGoes h1 q j (by unfold T_X5_hasGoes; exact id)).trans (hs q j hq)
  refine f_ite hf (fun hf => ?_) (fun hf => ?_)
  · exact fun q j hq => (f_X10_moveBox_b267 hf q j hq).trans (hs q j hq)
  · refine f_gp hf (fun hg738 hf => ?_)
    refine f_gp hf (fun hg739 hf => ?_)
    refine f_gp hf (fun hg740 hf => ?_)
    refine f_mob hf (fun r741 σ742 h1 hf => ?_)
    have hs := fun q j hq => (f_X2_valueOf h1 q j (by unfold T_X10_moveBox at hq; unfold T_X2_valueOf; omega)).trans (hs q j hq)
    refine f_ite hf (fun hf => ?_) (fun hf => ?_)
    · exact fun q j hq => (f_X10_moveBox_b272 hf q j hq).trans (hs q j hq)
    · exact fun q j hq => (f_X10_moveBox_b267 hf q j hq).trans (hs q j hq)
theorem f_X10_moveBox_b210 {F : Nat} {o : Nat} {r : Int} {σ' : mMem}   {x1 x6 : Int} {σ : mMem} (hf : g_X10_moveBox_b210 F o x1 x6 σ = some (r, σ')) : ∀ q j, ¬ T_X10_moveBox o q j → σ' q j = σ q j := by
  unfold g_X10_moveBox_b210 at hf
  have hs : ∀ q j, ¬ T_X10_moveBox o q j → σ q j = σ q j := fun _ _ _ => rfl
  refine f_ite hf (fun hf => ?_) (fun hf => ?_)
  · exact fun q j hq => (f_X10_moveBox_b228 hf q j hq).trans (hs q j hq)
  · exact fun q j hq => (f_X10_moveBox_b228 hf q j hq).trans (hs q j hq)
theorem f_X10_moveBox_b207 {F : Nat} {o : Nat} {r : Int} {σ' : mMem}   {x1 x6 t0 t1 : Int} {σ : mMem} (hf : g_X10_moveBox_b207 F o x1 x6 t0 t1 σ = some (r, σ')) : ∀ q j, ¬ T_X10_moveBox o q j → σ' q j = σ q j := by
  unfold g_X10_moveBox_b207 at hf
  have hs : ∀ q j, ¬ T_X10_moveBox o q j → σ q j = σ q j := fun _ _ _ => rfl
  refine f_mob hf (fun r632 σ633 h1 hf => ?_)
  have hs := fun q j hq => (f_X10_turnBy h1 q j (by unfold T_X10_moveBox at hq; unfold T_X10_turnBy; omega)).trans (hs q j hq)
  exact fun q j hq => (f_X10_moveBox_b210 hf q j hq).trans (hs q j hq)
theorem f_X10_moveBox_b190 {F : Nat} {o : Nat} {r : Int} {σ' : mMem}   {x1 x6 : Int} {σ : mMem} (hf : g_X10_moveBox_b190 F o x1 x6 σ = some (r, σ')) : ∀ q j, ¬ T_X10_moveBox o q j → σ' q j = σ q j := by
  unfold g_X10_moveBox_b190 at hf
  have hs : ∀ q j, ¬ T_X10_moveBox o q j → σ q j = σ q j := fun _ _ _ => rfl
  refine f_ite hf (fun hf => ?_) (fun hf => ?_)
  · exact fun q j hq => (f_X10_moveBox_b210 hf q j hq).trans (hs q j hq)
  · refine f_ite hf (fun hf => ?_) (fun hf => ?_)
    · exact fun q j hq => (f_X10_moveBox_b207 hf q j hq).trans (hs q j hq)
    · exact fun q j hq => (f_X10_moveBox_b207 hf q j hq).trans (hs q j hq)
theorem f_X10_moveBox_b70 {F : Nat} {o : Nat} {r : Int} {σ' : mMem}   {x1 x2 x3 x4 t0 t1 t2 : Int} {σ : mMem} (hf : g_X10_moveBox_b70 F o x1 x2 x3 x4 t0 t1 t2 σ = some (r, σ')) : ∀ q j, ¬ T_X10_moveBox o q j → σ' q j = σ q j := by
  unfold g_X10_moveBox_b70 at hf
  have hs : ∀ q j, ¬ T_X10_moveBox o q j → σ q j = σ q j := fun _ _ _ => rfl
  refine f_mob hf (fun r311 σ312 h1 hf => ?_)
  have hs := fun q j hq => (f_X10_set h1 q j (by unfold T_X10_moveBox at hq; unfold T_X10_set; omega)).trans (hs q j hq)
  refine f_gd hf (fun hf => ?_)
  refine f_mem hf (fun q j hq => (mup_ne (by unfold T_X10_moveBox at hq; omega)).trans (hs q j hq)) (fun σ313 hs hf => ?_)
  refine f_gd hf (fun hf => ?_)
  refine f_mem hf (fun q j hq => (mup_ne (by unfold T_X10_moveBox at hq; omega)).trans (hs q j hq)) (fun σ314 hs hf => ?_)
  refine f_gd hf (fun hf => ?_)
  refine f_mem hf (fun q j hq => (mup_ne (by unfold T_X10_moveBox at hq; omega)).trans (hs q j hq)) (fun σ315 hs hf => ?_)
  refine f_mob hf (fun r316 σ317 h1 hf => ?_)
  have hs := fun q j hq => (f_X10_of h1 q j (by unfold T_X10_of; exact id)).trans (hs q j hq)
  refine f_gd hf (fun hf => ?_)
  refine f_mem hf (fun q j hq => (mup_ne (by unfold T_X10_moveBox at hq; omega)).trans (hs q j hq)) (fun σ318 hs hf => ?_)
  refine f_gd hf (fun hf => ?_)
  refine f_mem hf (fun q j hq => (mup_ne (by unfold T_X10_moveBox at hq; omega)).trans (hs q j hq)) (fun σ319 hs hf => ?_)
  refine f_mob hf (fun r320 σ321 h1 hf => ?_)
  have hs := fun q j hq => (f_X10_of h1 q j (by unfold T_X10_of; exact id)).trans (hs q j hq)
  refine f_gd hf (fun hf => ?_)
  refine f_mem hf (fun q j hq => (mup_ne (by unfold T_X10_moveBox at hq; omega)).trans (hs q j hq)) (fun σ322 hs hf => ?_)
  refine f_let hf (fun y323 hf => ?_)
  refine f_gp hf (fun hg324 hf => ?_)
  refine f_mob hf (fun r325 σ326 h1 hf => ?_)
  have hs := fun q j hq => (f_X5_hasSteers h1 q j (by unfold T_X5_hasSteers; exact id)).trans (hs q j hq)
  refine f_ite hf (fun hf => ?_) (fun hf => ?_)
  · exact fun q j hq => (f_X10_moveBox_b190 hf q j hq).trans (hs q j hq)
  · refine f_gp hf (fun hg327 hf => ?_)
    refine f_gp hf (fun hg328 hf => ?_)
    refine f_gp hf (fun hg329 hf => ?_)
    refine f_mob hf (fun r330 σ331 h1 hf => ?_)
    have hs := fun q j hq => (f_X2_valueOf h1 q j (by unfold T_X10_moveBox at hq; unfold T_X2_valueOf; omega)).trans (hs q j hq)
    exact fun q j hq => (f_X10_moveBox_b190 hf q j hq).trans (hs q j hq)
theorem f_X10_moveBox_b43 {F : Nat} {o : Nat} {r : Int} {σ' : mMem}   {x1 x2 x3 x4 t0 : Int} {σ : mMem} (hf : g_X10_moveBox_b43 F o x1 x2 x3 x4 t0 σ = some (r, σ')) : ∀ q j, ¬ T_X10_moveBox o q j → σ' q j = σ q j := by
  unfold g_X10_moveBox_b43 at hf
  have hs : ∀ q j, ¬ T_X10_moveBox o q j → σ q j = σ q j := fun _ _ _ => rfl
  refine f_ite hf (fun hf => ?_) (fun hf => ?_)
  · refine f_mob hf (fun r107 σ108 h1 hf => ?_)
    have hs := fun q j hq => (f_X10_of h1 q j (by unfold T_X10_of; exact id)).trans (hs q j hq)
    refine f_mob hf (fun r109 σ110 h1 hf => ?_)
    have hs := fun q j hq => (f_J9_min_7cf53 h1 q j (by unfold T_J9_min_7cf53; exact id)).trans (hs q j hq)
    exact fun q j hq => (f_X10_moveBox_b70 hf q j hq).trans (hs q j hq)
  · exact fun q j hq => (f_X10_moveBox_b70 hf q j hq).trans (hs q j hq)
theorem f_X10_moveBox_b38 {F : Nat} {o : Nat} {r : Int} {σ' : mMem}   {x1 x2 x3 x4 : Int} {σ : mMem} (hf : g_X10_moveBox_b38 F o x1 x2 x3 x4 σ = some (r, σ')) : ∀ q j, ¬ T_X10_moveBox o q j → σ' q j = σ q j := by
  unfold g_X10_moveBox_b38 at hf
  have hs : ∀ q j, ¬ T_X10_moveBox o q j → σ q j = σ q j := fun _ _ _ => rfl
  exact fun q j hq => (f_X10_moveBox_b43 hf q j hq).trans (hs q j hq)
theorem f_X10_moveBox {F : Nat} {o : Nat} {r : Int} {σ' : mMem} {x1 : Int} {σ : mMem} (hf : g_X10_moveBox F o x1 σ = some (r, σ')) : ∀ q j, ¬ T_X10_moveBox o q j → σ' q j = σ q j := by
  unfold g_X10_moveBox at hf
  have hs : ∀ q j, ¬ T_X10_moveBox o q j → σ q j = σ q j := fun _ _ _ => rfl
  refine f_mob hf (fun r1 σ2 h1 hf => ?_)
  have hs := fun q j hq => (f_X10_greySeen h1 q j (by unfold T_X10_greySeen; exact id)).trans (hs q j hq)
  refine f_mob hf (fun r3 σ4 h1 hf => ?_)
  have hs := fun q j hq => (f_X10_greySeen h1 q j (by unfold T_X10_greySeen; exact id)).trans (hs q j hq)
  refine f_mob hf (fun r5 σ6 h1 hf => ?_)
  have hs := fun q j hq => (f_X10_greySeen h1 q j (by unfold T_X10_greySeen; exact id)).trans (hs q j hq)
  refine f_ite hf (fun hf => ?_) (fun hf => ?_)
  · exact fun q j hq => (f_X10_moveBox_b38 hf q j hq).trans (hs q j hq)
  · refine f_ite hf (fun hf => ?_) (fun hf => ?_)
    · exact fun q j hq => (f_X10_moveBox_b38 hf q j hq).trans (hs q j hq)
    · refine f_ite hf (fun hf => ?_) (fun hf => ?_)
      · exact fun q j hq => (f_X10_moveBox_b43 hf q j hq).trans (hs q j hq)
      · exact fun q j hq => (f_X10_moveBox_b38 hf q j hq).trans (hs q j hq)
def T_X10_pass (o : Nat) (q j : Nat) : Prop := (q = o ∧ (j = 4 ∨ j = 6 ∨ j = 7)) ∨ q = (o + 1) ∨ q = (o + 2) ∨ q = (o + 4) ∨ q = (o + 5)
theorem f_X10_pass_b66 {F : Nat} {o : Nat} {r : Int} {σ' : mMem}   {σ : mMem} (hf : g_X10_pass_b66 F o  σ = some (r, σ')) : ∀ q j, ¬ T_X10_pass o q j → σ' q j = σ q j := by
  unfold g_X10_pass_b66 at hf
  have hs : ∀ q j, ¬ T_X10_pass o q j → σ q j = σ q j := fun _ _ _ => rfl
  refine f_mob hf (fun r209 σ210 h1 hf => ?_)
  have hs := fun q j hq => (f_J9_min_7cf53 h1 q j (by unfold T_J9_min_7cf53; exact id)).trans (hs q j hq)
  refine f_mem hf (fun q j hq => (mup_ne (by unfold T_X10_pass at hq; omega)).trans (hs q j hq)) (fun σ211 hs hf => ?_)
  cases hf
  exact hs
theorem f_X10_pass_b60 {F : Nat} {o : Nat} {r : Int} {σ' : mMem} {k12 : Int → Int → Int → mMem → mRs} (hk12 : ∀ (x1 x2 x3 : Int) (σ : mMem), k12 x1 x2 x3 σ = some (r, σ') → ∀ q j, ¬ T_X10_pass o q j → σ' q j = σ q j) {x1 x2 x3 : Int} {σ : mMem} (hf : g_X10_pass_b60 F o k12 x1 x2 x3 σ = some (r, σ')) : ∀ q j, ¬ T_X10_pass o q j → σ' q j = σ q j := by
  unfold g_X10_pass_b60 at hf
  have hs : ∀ q j, ¬ T_X10_pass o q j → σ q j = σ q j := fun _ _ _ => rfl
  exact fun q j hq => (hk12 _ _ _ _ hf q j hq).trans (hs q j hq)
theorem f_X10_pass_h12 {F : Nat} {o : Nat} {r : Int} {σ' : mMem}   (n : Nat) : ∀ {x1 x2 x3 : Int} {σ : mMem} (_ : g_X10_pass_h12 F o n x1 x2 x3 σ = some (r, σ')), ∀ q j, ¬ T_X10_pass o q j → σ' q j = σ q j := by
  induction n with
  | zero =>
    intro x1 x2 x3 σ hf
    unfold g_X10_pass_h12 at hf
    cases hf
  | succ n ih =>
    have hk12 : ∀ (x1 x2 x3 : Int) (σ : mMem), g_X10_pass_h12 F o n x1 x2 x3 σ = some (r, σ') → ∀ q j, ¬ T_X10_pass o q j → σ' q j = σ q j := fun x1 x2 x3 σ hf => ih hf
    intro x1 x2 x3 σ hf
    unfold g_X10_pass_h12 at hf
    have hs : ∀ q j, ¬ T_X10_pass o q j → σ q j = σ q j := fun _ _ _ => rfl
    refine f_gp hf (fun hg103 hf => ?_)
    refine f_ite hf (fun hf => ?_) (fun hf => ?_)
    · exact fun q j hq => (f_X10_pass_b66 hf q j hq).trans (hs q j hq)
    · refine f_ite hf (fun hf => ?_) (fun hf => ?_)
      · exact fun q j hq => (f_X10_pass_b66 hf q j hq).trans (hs q j hq)
      · refine f_gd hf (fun hf => ?_)
        refine f_mem hf (fun q j hq => (mup_ne (by unfold T_X10_pass at hq; omega)).trans (hs q j hq)) (fun σ104 hs hf => ?_)
        refine f_ite hf (fun hf => ?_) (fun hf => ?_)
        · exact fun q j hq => (f_X10_pass_b60 hk12 hf q j hq).trans (hs q j hq)
        · refine f_mob hf (fun r105 σ106 h1 hf => ?_)
          have hs := fun q j hq => (f_X10_of h1 q j (by unfold T_X10_of; exact id)).trans (hs q j hq)
          refine f_ite hf (fun hf => ?_) (fun hf => ?_)
          · exact fun q j hq => (f_X10_pass_b60 hk12 hf q j hq).trans (hs q j hq)
          · refine f_mob hf (fun r107 σ108 h1 hf => ?_)
            have hs := fun q j hq => (f_X10_moveBox h1 q j (by unfold T_X10_pass at hq; unfold T_X10_moveBox; omega)).trans (hs q j hq)
            exact fun q j hq => (f_X10_pass_b60 hk12 hf q j hq).trans (hs q j hq)
theorem f_X10_pass {F : Nat} {o : Nat} {r : Int} {σ' : mMem} {x1 x2 : Int} {σ : mMem} (hf : g_X10_pass F o x1 x2 σ = some (r, σ')) : ∀ q j, ¬ T_X10_pass o q j → σ' q j = σ q j := by
  unfold g_X10_pass at hf
  have hs : ∀ q j, ¬ T_X10_pass o q j → σ q j = σ q j := fun _ _ _ => rfl
  refine f_mem hf (fun q j hq => (mup_ne (by unfold T_X10_pass at hq; omega)).trans (hs q j hq)) (fun σ1 hs hf => ?_)
  refine f_mem hf (fun q j hq => (mup_ne (by unfold T_X10_pass at hq; omega)).trans (hs q j hq)) (fun σ2 hs hf => ?_)
  exact fun q j hq => (f_X10_pass_h12 _ hf q j hq).trans (hs q j hq)
def T_X0_stateBehind (w1 : Nat) (q j : Nat) : Prop := (q = 29 ∧ (j = 3 ∨ j = 4 ∨ j = 5 ∨ j = 6 ∨ j = 7)) ∨ q = 30 ∨ q = 31 ∨ q = 33 ∨ q = 34
theorem f_X0_stateBehind_b77 {F : Nat} {w1 : Nat} {r : Int} {σ' : mMem}   {t0 t1 : Int} {σ : mMem} (hf : g_X0_stateBehind_b77 F w1 t0 t1 σ = some (r, σ')) : ∀ q j, ¬ T_X0_stateBehind w1 q j → σ' q j = σ q j := by
  unfold g_X0_stateBehind_b77 at hf
  have hs : ∀ q j, ¬ T_X0_stateBehind w1 q j → σ q j = σ q j := fun _ _ _ => rfl
  refine f_mob hf (fun r209 σ210 h1 hf => ?_)
  have hs := fun q j hq => (f_X10_of h1 q j (by unfold T_X10_of; exact id)).trans (hs q j hq)
  cases hf
  exact hs
theorem f_X0_stateBehind_h22 {F : Nat} {w1 : Nat} {r : Int} {σ' : mMem}   (n : Nat) : ∀ {x2 x3 x4 x5 : Int} {σ : mMem} (_ : g_X0_stateBehind_h22 F w1 n x2 x3 x4 x5 σ = some (r, σ')), ∀ q j, ¬ T_X0_stateBehind w1 q j → σ' q j = σ q j := by
  induction n with
  | zero =>
    intro x2 x3 x4 x5 σ hf
    unfold g_X0_stateBehind_h22 at hf
    cases hf
  | succ n ih =>
    have hk22 : ∀ (x2 x3 x4 x5 : Int) (σ : mMem), g_X0_stateBehind_h22 F w1 n x2 x3 x4 x5 σ = some (r, σ') → ∀ q j, ¬ T_X0_stateBehind w1 q j → σ' q j = σ q j := fun x2 x3 x4 x5 σ hf => ih hf
    intro x2 x3 x4 x5 σ hf
    unfold g_X0_stateBehind_h22 at hf
    have hs : ∀ q j, ¬ T_X0_stateBehind w1 q j → σ q j = σ q j := fun _ _ _ => rfl
    refine f_ite hf (fun hf => ?_) (fun hf => ?_)
    · refine f_ite hf (fun hf => ?_) (fun hf => ?_)
      · refine f_ite hf (fun hf => ?_) (fun hf => ?_)
        · exact fun q j hq => (f_X0_stateBehind_b77 hf q j hq).trans (hs q j hq)
        · exact fun q j hq => (f_X0_stateBehind_b77 hf q j hq).trans (hs q j hq)
      · refine f_mob hf (fun r105 σ106 h1 hf => ?_)
        have hs := fun q j hq => (f_X10_of h1 q j (by unfold T_X10_of; exact id)).trans (hs q j hq)
        cases hf
        exact hs
    · refine f_mob hf (fun r107 σ108 h1 hf => ?_)
      have hs := fun q j hq => (f_X10_pass h1 q j (by unfold T_X0_stateBehind at hq; unfold T_X10_pass; omega)).trans (hs q j hq)
      exact fun q j hq => (hk22 _ _ _ _ _ hf q j hq).trans (hs q j hq)
theorem f_X0_stateBehind {F : Nat} {w1 : Nat} {r : Int} {σ' : mMem} {x2 x3 x4 : Int} {σ : mMem} (hf : g_X0_stateBehind F w1 x2 x3 x4 σ = some (r, σ')) : ∀ q j, ¬ T_X0_stateBehind w1 q j → σ' q j = σ q j := by
  unfold g_X0_stateBehind at hf
  have hs : ∀ q j, ¬ T_X0_stateBehind w1 q j → σ q j = σ q j := fun _ _ _ => rfl
  refine f_mob hf (fun r1 σ2 h1 hf => ?_)
  have hs := fun q j hq => (f_X10_copyFrom h1 q j (by unfold T_X0_stateBehind at hq; unfold T_X10_copyFrom; omega)).trans (hs q j hq)
  refine f_mob hf (fun r3 σ4 h1 hf => ?_)
  have hs := fun q j hq => (f_X10_set h1 q j (by unfold T_X0_stateBehind at hq; unfold T_X10_set; omega)).trans (hs q j hq)
  exact fun q j hq => (f_X0_stateBehind_h22 _ hf q j hq).trans (hs q j hq)
def T_X0_isAsIn (w1 : Nat) (q j : Nat) : Prop := False
theorem f_X0_isAsIn_b59 {F : Nat} {w1 : Nat} {r : Int} {σ' : mMem}   {t0 : Int} {σ : mMem} (hf : g_X0_isAsIn_b59 F w1 t0 σ = some (r, σ')) : ∀ q j, ¬ T_X0_isAsIn w1 q j → σ' q j = σ q j := by
  unfold g_X0_isAsIn_b59 at hf
  have hs : ∀ q j, ¬ T_X0_isAsIn w1 q j → σ q j = σ q j := fun _ _ _ => rfl
  refine f_gd hf (fun hf => ?_)
  cases hf
  exact hs
theorem f_X0_isAsIn_b58 {F : Nat} {w1 : Nat} {r : Int} {σ' : mMem}   {σ : mMem} (hf : g_X0_isAsIn_b58 F w1  σ = some (r, σ')) : ∀ q j, ¬ T_X0_isAsIn w1 q j → σ' q j = σ q j := by
  unfold g_X0_isAsIn_b58 at hf
  have hs : ∀ q j, ¬ T_X0_isAsIn w1 q j → σ q j = σ q j := fun _ _ _ => rfl
  exact fun q j hq => (f_X0_isAsIn_b59 hf q j hq).trans (hs q j hq)
theorem f_X0_isAsIn {F : Nat} {w1 : Nat} {r : Int} {σ' : mMem} {x2 : Int} {σ : mMem} (hf : g_X0_isAsIn F w1 x2 σ = some (r, σ')) : ∀ q j, ¬ T_X0_isAsIn w1 q j → σ' q j = σ q j := by
  unfold g_X0_isAsIn at hf
  have hs : ∀ q j, ¬ T_X0_isAsIn w1 q j → σ q j = σ q j := fun _ _ _ => rfl
  refine f_mob hf (fun r1 σ2 h1 hf => ?_)
  have hs := fun q j hq => (f_X10_of h1 q j (by unfold T_X10_of; exact id)).trans (hs q j hq)
  refine f_mob hf (fun r3 σ4 h1 hf => ?_)
  have hs := fun q j hq => (f_X10_of h1 q j (by unfold T_X10_of; exact id)).trans (hs q j hq)
  refine f_ite hf (fun hf => ?_) (fun hf => ?_)
  · exact fun q j hq => (f_X0_isAsIn_b58 hf q j hq).trans (hs q j hq)
  · refine f_mob hf (fun r5 σ6 h1 hf => ?_)
    have hs := fun q j hq => (f_X10_of h1 q j (by unfold T_X10_of; exact id)).trans (hs q j hq)
    refine f_mob hf (fun r7 σ8 h1 hf => ?_)
    have hs := fun q j hq => (f_X10_of h1 q j (by unfold T_X10_of; exact id)).trans (hs q j hq)
    refine f_ite hf (fun hf => ?_) (fun hf => ?_)
    · exact fun q j hq => (f_X0_isAsIn_b58 hf q j hq).trans (hs q j hq)
    · refine f_mob hf (fun r9 σ10 h1 hf => ?_)
      have hs := fun q j hq => (f_X10_of h1 q j (by unfold T_X10_of; exact id)).trans (hs q j hq)
      refine f_mob hf (fun r11 σ12 h1 hf => ?_)
      have hs := fun q j hq => (f_X10_of h1 q j (by unfold T_X10_of; exact id)).trans (hs q j hq)
      refine f_ite hf (fun hf => ?_) (fun hf => ?_)
      · exact fun q j hq => (f_X0_isAsIn_b58 hf q j hq).trans (hs q j hq)
      · exact fun q j hq => (f_X0_isAsIn_b59 hf q j hq).trans (hs q j hq)
def T_X10_comingSteps (o : Nat) (q j : Nat) : Prop := False
theorem f_X10_comingSteps {F : Nat} {o : Nat} {r : Int} {σ' : mMem} {x1 : Int} {σ : mMem} (hf : g_X10_comingSteps F o x1 σ = some (r, σ')) : ∀ q j, ¬ T_X10_comingSteps o q j → σ' q j = σ q j := by
  unfold g_X10_comingSteps at hf
  have hs : ∀ q j, ¬ T_X10_comingSteps o q j → σ q j = σ q j := fun _ _ _ => rfl
  refine f_mob hf (fun r1 σ2 h1 hf => ?_)
  have hs := fun q j hq => (f_J9_min_7cf53 h1 q j (by unfold T_J9_min_7cf53; exact id)).trans (hs q j hq)
  cases hf
  exact hs
def T_X0_stepsRound (w1 : Nat) (q j : Nat) : Prop := (q = 29 ∧ (j = 3 ∨ j = 4 ∨ j = 5 ∨ j = 6 ∨ j = 7)) ∨ q = 30 ∨ q = 31 ∨ q = 33 ∨ q = 34
theorem f_X0_stepsRound_h18 {F : Nat} {w1 : Nat} {r : Int} {σ' : mMem}   (n : Nat) : ∀ {x2 x3 x4 : Int} {σ : mMem} (_ : g_X0_stepsRound_h18 F w1 n x2 x3 x4 σ = some (r, σ')), ∀ q j, ¬ T_X0_stepsRound w1 q j → σ' q j = σ q j := by
  induction n with
  | zero =>
    intro x2 x3 x4 σ hf
    unfold g_X0_stepsRound_h18 at hf
    cases hf
  | succ n ih =>
    have hk18 : ∀ (x2 x3 x4 : Int) (σ : mMem), g_X0_stepsRound_h18 F w1 n x2 x3 x4 σ = some (r, σ') → ∀ q j, ¬ T_X0_stepsRound w1 q j → σ' q j = σ q j := fun x2 x3 x4 σ hf => ih hf
    intro x2 x3 x4 σ hf
    unfold g_X0_stepsRound_h18 at hf
    have hs : ∀ q j, ¬ T_X0_stepsRound w1 q j → σ q j = σ q j := fun _ _ _ => rfl
    refine f_ite hf (fun hf => ?_) (fun hf => ?_)
    · cases hf
      exact hs
    · refine f_mob hf (fun r105 σ106 h1 hf => ?_)
      have hs := fun q j hq => (f_X10_pass h1 q j (by unfold T_X0_stepsRound at hq; unfold T_X10_pass; omega)).trans (hs q j hq)
      refine f_mob hf (fun r107 σ108 h1 hf => ?_)
      have hs := fun q j hq => (f_X0_isAsIn h1 q j (by unfold T_X0_isAsIn; exact id)).trans (hs q j hq)
      refine f_ite hf (fun hf => ?_) (fun hf => ?_)
      · exact fun q j hq => (hk18 _ _ _ _ hf q j hq).trans (hs q j hq)
      · cases hf
        exact hs
theorem f_X0_stepsRound {F : Nat} {w1 : Nat} {r : Int} {σ' : mMem} {x2 : Int} {σ : mMem} (hf : g_X0_stepsRound F w1 x2 σ = some (r, σ')) : ∀ q j, ¬ T_X0_stepsRound w1 q j → σ' q j = σ q j := by
  unfold g_X0_stepsRound at hf
  have hs : ∀ q j, ¬ T_X0_stepsRound w1 q j → σ q j = σ q j := fun _ _ _ => rfl
  refine f_mob hf (fun r1 σ2 h1 hf => ?_)
  have hs := fun q j hq => (f_X10_copyFrom h1 q j (by unfold T_X0_stepsRound at hq; unfold T_X10_copyFrom; omega)).trans (hs q j hq)
  refine f_mob hf (fun r3 σ4 h1 hf => ?_)
  have hs := fun q j hq => (f_X10_comingSteps h1 q j (by unfold T_X10_comingSteps; exact id)).trans (hs q j hq)
  exact fun q j hq => (f_X0_stepsRound_h18 _ hf q j hq).trans (hs q j hq)
def T_X0_stepsToLoss (w1 : Nat) (q j : Nat) : Prop := (q = 29 ∧ (j = 3 ∨ j = 4 ∨ j = 5 ∨ j = 6 ∨ j = 7)) ∨ q = 30 ∨ q = 31 ∨ q = 33 ∨ q = 34
theorem f_X0_stepsToLoss_b40 {F : Nat} {w1 : Nat} {r : Int} {σ' : mMem} {k19 : Int → Int → Int → Int → mMem → mRs} (hk19 : ∀ (x2 x3 x4 x5 : Int) (σ : mMem), k19 x2 x3 x4 x5 σ = some (r, σ') → ∀ q j, ¬ T_X0_stepsToLoss w1 q j → σ' q j = σ q j) {x2 x3 x4 x5 : Int} {σ : mMem} (hf : g_X0_stepsToLoss_b40 F w1 k19 x2 x3 x4 x5 σ = some (r, σ')) : ∀ q j, ¬ T_X0_stepsToLoss w1 q j → σ' q j = σ q j := by
  unfold g_X0_stepsToLoss_b40 at hf
  have hs : ∀ q j, ¬ T_X0_stepsToLoss w1 q j → σ q j = σ q j := fun _ _ _ => rfl
  refine f_mob hf (fun r207 σ208 h1 hf => ?_)
  have hs := fun q j hq => (f_X10_of h1 q j (by unfold T_X10_of; exact id)).trans (hs q j hq)
  refine f_ite hf (fun hf => ?_) (fun hf => ?_)
  · exact fun q j hq => (hk19 _ _ _ _ _ hf q j hq).trans (hs q j hq)
  · cases hf
    exact hs
theorem f_X0_stepsToLoss_h19 {F : Nat} {w1 : Nat} {r : Int} {σ' : mMem}   (n : Nat) : ∀ {x2 x3 x4 x5 : Int} {σ : mMem} (_ : g_X0_stepsToLoss_h19 F w1 n x2 x3 x4 x5 σ = some (r, σ')), ∀ q j, ¬ T_X0_stepsToLoss w1 q j → σ' q j = σ q j := by
  induction n with
  | zero =>
    intro x2 x3 x4 x5 σ hf
    unfold g_X0_stepsToLoss_h19 at hf
    cases hf
  | succ n ih =>
    have hk19 : ∀ (x2 x3 x4 x5 : Int) (σ : mMem), g_X0_stepsToLoss_h19 F w1 n x2 x3 x4 x5 σ = some (r, σ') → ∀ q j, ¬ T_X0_stepsToLoss w1 q j → σ' q j = σ q j := fun x2 x3 x4 x5 σ hf => ih hf
    intro x2 x3 x4 x5 σ hf
    unfold g_X0_stepsToLoss_h19 at hf
    have hs : ∀ q j, ¬ T_X0_stepsToLoss w1 q j → σ q j = σ q j := fun _ _ _ => rfl
    refine f_ite hf (fun hf => ?_) (fun hf => ?_)
    · cases hf
      exact hs
    · refine f_ite hf (fun hf => ?_) (fun hf => ?_)
      · exact fun q j hq => (f_X0_stepsToLoss_b40 hk19 hf q j hq).trans (hs q j hq)
      · refine f_mob hf (fun r105 σ106 h1 hf => ?_)
        have hs := fun q j hq => (f_X10_pass h1 q j (by unfold T_X0_stepsToLoss at hq; unfold T_X10_pass; omega)).trans (hs q j hq)
        exact fun q j hq => (f_X0_stepsToLoss_b40 hk19 hf q j hq).trans (hs q j hq)
theorem f_X0_stepsToLoss {F : Nat} {w1 : Nat} {r : Int} {σ' : mMem} {x2 x3 : Int} {σ : mMem} (hf : g_X0_stepsToLoss F w1 x2 x3 σ = some (r, σ')) : ∀ q j, ¬ T_X0_stepsToLoss w1 q j → σ' q j = σ q j := by
  unfold g_X0_stepsToLoss at hf
  have hs : ∀ q j, ¬ T_X0_stepsToLoss w1 q j → σ q j = σ q j := fun _ _ _ => rfl
  refine f_mob hf (fun r1 σ2 h1 hf => ?_)
  have hs := fun q j hq => (f_X10_copyFrom h1 q j (by unfold T_X0_stepsToLoss at hq; unfold T_X10_copyFrom; omega)).trans (hs q j hq)
  refine f_mob hf (fun r3 σ4 h1 hf => ?_)
  have hs := fun q j hq => (f_X10_comingSteps h1 q j (by unfold T_X10_comingSteps; exact id)).trans (hs q j hq)
  exact fun q j hq => (f_X0_stepsToLoss_h19 _ hf q j hq).trans (hs q j hq)
def T_X0_firstJam (w1 : Nat) (q j : Nat) : Prop := (q = 29 ∧ (j = 3 ∨ j = 4 ∨ j = 5 ∨ j = 6 ∨ j = 7)) ∨ q = 30 ∨ q = 31 ∨ q = 33 ∨ q = 34
theorem f_X0_firstJam_b53 {F : Nat} {w1 : Nat} {r : Int} {σ' : mMem} {k17 : Int → Int → mMem → mRs} (hk17 : ∀ (x2 x3 : Int) (σ : mMem), k17 x2 x3 σ = some (r, σ') → ∀ q j, ¬ T_X0_firstJam w1 q j → σ' q j = σ q j) {x2 x3 : Int} {σ : mMem} (hf : g_X0_firstJam_b53 F w1 k17 x2 x3 σ = some (r, σ')) : ∀ q j, ¬ T_X0_firstJam w1 q j → σ' q j = σ q j := by
  unfold g_X0_firstJam_b53 at hf
  have hs : ∀ q j, ¬ T_X0_firstJam w1 q j → σ q j = σ q j := fun _ _ _ => rfl
  exact fun q j hq => (hk17 _ _ _ hf q j hq).trans (hs q j hq)
theorem f_X0_firstJam_h17 {F : Nat} {w1 : Nat} {r : Int} {σ' : mMem}   (n : Nat) : ∀ {x2 x3 : Int} {σ : mMem} (_ : g_X0_firstJam_h17 F w1 n x2 x3 σ = some (r, σ')), ∀ q j, ¬ T_X0_firstJam w1 q j → σ' q j = σ q j := by
  induction n with
  | zero =>
    intro x2 x3 σ hf
    unfold g_X0_firstJam_h17 at hf
    cases hf
  | succ n ih =>
    have hk17 : ∀ (x2 x3 : Int) (σ : mMem), g_X0_firstJam_h17 F w1 n x2 x3 σ = some (r, σ') → ∀ q j, ¬ T_X0_firstJam w1 q j → σ' q j = σ q j := fun x2 x3 σ hf => ih hf
    intro x2 x3 σ hf
    unfold g_X0_firstJam_h17 at hf
    have hs : ∀ q j, ¬ T_X0_firstJam w1 q j → σ q j = σ q j := fun _ _ _ => rfl
    refine f_ite hf (fun hf => ?_) (fun hf => ?_)
    · cases hf
      exact hs
    · refine f_mob hf (fun r105 σ106 h1 hf => ?_)
      have hs := fun q j hq => (f_X10_pass h1 q j (by unfold T_X0_firstJam at hq; unfold T_X10_pass; omega)).trans (hs q j hq)
      refine f_ite hf (fun hf => ?_) (fun hf => ?_)
      · exact fun q j hq => (f_X0_firstJam_b53 hk17 hf q j hq).trans (hs q j hq)
      · refine f_ite hf (fun hf => ?_) (fun hf => ?_)
        · exact fun q j hq => (f_X0_firstJam_b53 hk17 hf q j hq).trans (hs q j hq)
        · cases hf
          exact hs
theorem f_X0_firstJam {F : Nat} {w1 : Nat} {r : Int} {σ' : mMem} {σ : mMem} (hf : g_X0_firstJam F w1 σ = some (r, σ')) : ∀ q j, ¬ T_X0_firstJam w1 q j → σ' q j = σ q j := by
  unfold g_X0_firstJam at hf
  have hs : ∀ q j, ¬ T_X0_firstJam w1 q j → σ q j = σ q j := fun _ _ _ => rfl
  refine f_mob hf (fun r1 σ2 h1 hf => ?_)
  have hs := fun q j hq => (f_X10_copyFrom h1 q j (by unfold T_X0_firstJam at hq; unfold T_X10_copyFrom; omega)).trans (hs q j hq)
  refine f_mob hf (fun r3 σ4 h1 hf => ?_)
  have hs := fun q j hq => (f_X10_comingSteps h1 q j (by unfold T_X10_comingSteps; exact id)).trans (hs q j hq)
  exact fun q j hq => (f_X0_firstJam_h17 _ hf q j hq).trans (hs q j hq)
def T_J9_abs_0f7a4  (q j : Nat) : Prop := False
theorem f_J9_abs_0f7a4_b10 {F : Nat}  {r : Int} {σ' : mMem}   {t0 : Int} {σ : mMem} (hf : g_J9_abs_0f7a4_b10 F t0 σ = some (r, σ')) : ∀ q j, ¬ T_J9_abs_0f7a4  q j → σ' q j = σ q j := by
  unfold g_J9_abs_0f7a4_b10 at hf
  have hs : ∀ q j, ¬ T_J9_abs_0f7a4  q j → σ q j = σ q j := fun _ _ _ => rfl
  cases hf
  exact hs
theorem f_J9_abs_0f7a4 {F : Nat}  {r : Int} {σ' : mMem} {x0 : Int} {σ : mMem} (hf : g_J9_abs_0f7a4 F x0 σ = some (r, σ')) : ∀ q j, ¬ T_J9_abs_0f7a4  q j → σ' q j = σ q j := by
  unfold g_J9_abs_0f7a4 at hf
  have hs : ∀ q j, ¬ T_J9_abs_0f7a4  q j → σ q j = σ q j := fun _ _ _ => rfl
  refine f_ite hf (fun hf => ?_) (fun hf => ?_)
  · exact fun q j hq => (f_J9_abs_0f7a4_b10 hf q j hq).trans (hs q j hq)
  · exact fun q j hq => (f_J9_abs_0f7a4_b10 hf q j hq).trans (hs q j hq)
def T_X0_distance  (q j : Nat) : Prop := False
theorem f_X0_distance {F : Nat}  {r : Int} {σ' : mMem} {x1 x2 : Int} {σ : mMem} (hf : g_X0_distance F x1 x2 σ = some (r, σ')) : ∀ q j, ¬ T_X0_distance  q j → σ' q j = σ q j := by
  unfold g_X0_distance at hf
  have hs : ∀ q j, ¬ T_X0_distance  q j → σ q j = σ q j := fun _ _ _ => rfl
  refine f_mob hf (fun r1 σ2 h1 hf => ?_)
  have hs := fun q j hq => (f_X10_of h1 q j (by unfold T_X10_of; exact id)).trans (hs q j hq)
  refine f_mob hf (fun r3 σ4 h1 hf => ?_)
  have hs := fun q j hq => (f_X10_of h1 q j (by unfold T_X10_of; exact id)).trans (hs q j hq)
  refine f_mob hf (fun r5 σ6 h1 hf => ?_)
  have hs := fun q j hq => (f_J9_abs_0f7a4 h1 q j (by unfold T_J9_abs_0f7a4; exact id)).trans (hs q j hq)
  refine f_mob hf (fun r7 σ8 h1 hf => ?_)
  have hs := fun q j hq => (f_X10_of h1 q j (by unfold T_X10_of; exact id)).trans (hs q j hq)
  refine f_mob hf (fun r9 σ10 h1 hf => ?_)
  have hs := fun q j hq => (f_X10_of h1 q j (by unfold T_X10_of; exact id)).trans (hs q j hq)
  refine f_mob hf (fun r11 σ12 h1 hf => ?_)
  have hs := fun q j hq => (f_J9_abs_0f7a4 h1 q j (by unfold T_J9_abs_0f7a4; exact id)).trans (hs q j hq)
  cases hf
  exact hs
def T_X0_nearest (w1 : Nat) (q j : Nat) : Prop := (q = 29 ∧ (j = 3 ∨ j = 4 ∨ j = 5 ∨ j = 6 ∨ j = 7)) ∨ q = 30 ∨ q = 31 ∨ q = 33 ∨ q = 34
theorem f_X0_nearest_h19 {F : Nat} {w1 : Nat} {r : Int} {σ' : mMem}   (n : Nat) : ∀ {x2 x3 x4 x5 x6 : Int} {σ : mMem} (_ : g_X0_nearest_h19 F w1 n x2 x3 x4 x5 x6 σ = some (r, σ')), ∀ q j, ¬ T_X0_nearest w1 q j → σ' q j = σ q j := by
  induction n with
  | zero =>
    intro x2 x3 x4 x5 x6 σ hf
    unfold g_X0_nearest_h19 at hf
    cases hf
  | succ n ih =>
    have hk19 : ∀ (x2 x3 x4 x5 x6 : Int) (σ : mMem), g_X0_nearest_h19 F w1 n x2 x3 x4 x5 x6 σ = some (r, σ') → ∀ q j, ¬ T_X0_nearest w1 q j → σ' q j = σ q j := fun x2 x3 x4 x5 x6 σ hf => ih hf
    intro x2 x3 x4 x5 x6 σ hf
    unfold g_X0_nearest_h19 at hf
    have hs : ∀ q j, ¬ T_X0_nearest w1 q j → σ q j = σ q j := fun _ _ _ => rfl
    refine f_ite hf (fun hf => ?_) (fun hf => ?_)
    · cases hf
      exact hs
    · refine f_mob hf (fun r105 σ106 h1 hf => ?_)
      have hs := fun q j hq => (f_X10_pass h1 q j (by unfold T_X0_nearest at hq; unfold T_X10_pass; omega)).trans (hs q j hq)
      refine f_mob hf (fun r107 σ108 h1 hf => ?_)
      have hs := fun q j hq => (f_X0_distance h1 q j (by unfold T_X0_distance; exact id)).trans (hs q j hq)
      refine f_mob hf (fun r109 σ110 h1 hf => ?_)
      have hs := fun q j hq => (f_J9_min_7cf53 h1 q j (by unfold T_J9_min_7cf53; exact id)).trans (hs q j hq)
      exact fun q j hq => (hk19 _ _ _ _ _ _ hf q j hq).trans (hs q j hq)
theorem f_X0_nearest {F : Nat} {w1 : Nat} {r : Int} {σ' : mMem} {x2 x3 x4 : Int} {σ : mMem} (hf : g_X0_nearest F w1 x2 x3 x4 σ = some (r, σ')) : ∀ q j, ¬ T_X0_nearest w1 q j → σ' q j = σ q j := by
  unfold g_X0_nearest at hf
  have hs : ∀ q j, ¬ T_X0_nearest w1 q j → σ q j = σ q j := fun _ _ _ => rfl
  refine f_mob hf (fun r1 σ2 h1 hf => ?_)
  have hs := fun q j hq => (f_X10_copyFrom h1 q j (by unfold T_X0_nearest at hq; unfold T_X10_copyFrom; omega)).trans (hs q j hq)
  refine f_mob hf (fun r3 σ4 h1 hf => ?_)
  have hs := fun q j hq => (f_X0_distance h1 q j (by unfold T_X0_distance; exact id)).trans (hs q j hq)
  exact fun q j hq => (f_X0_nearest_h19 _ hf q j hq).trans (hs q j hq)
def T_X10_isBlack (o : Nat) (q j : Nat) : Prop := False
theorem f_X10_isBlack_b23 {F : Nat} {o : Nat} {r : Int} {σ' : mMem}   {t0 : Int} {σ : mMem} (hf : g_X10_isBlack_b23 F o t0 σ = some (r, σ')) : ∀ q j, ¬ T_X10_isBlack o q j → σ' q j = σ q j := by
  unfold g_X10_isBlack_b23 at hf
  have hs : ∀ q j, ¬ T_X10_isBlack o q j → σ q j = σ q j := fun _ _ _ => rfl
  refine f_gd hf (fun hf => ?_)
  cases hf
  exact hs
theorem f_X10_isBlack {F : Nat} {o : Nat} {r : Int} {σ' : mMem} {x1 x2 : Int} {σ : mMem} (hf : g_X10_isBlack F o x1 x2 σ = some (r, σ')) : ∀ q j, ¬ T_X10_isBlack o q j → σ' q j = σ q j := by
  unfold g_X10_isBlack at hf
  have hs : ∀ q j, ¬ T_X10_isBlack o q j → σ q j = σ q j := fun _ _ _ => rfl
  refine f_gp hf (fun hg1 hf => ?_)
  refine f_mob hf (fun r2 σ3 h1 hf => ?_)
  have hs := fun q j hq => (f_X5_greyAt h1 q j (by unfold T_X5_greyAt; exact id)).trans (hs q j hq)
  refine f_ite hf (fun hf => ?_) (fun hf => ?_)
  · exact fun q j hq => (f_X10_isBlack_b23 hf q j hq).trans (hs q j hq)
  · exact fun q j hq => (f_X10_isBlack_b23 hf q j hq).trans (hs q j hq)
def T_X10_onBlack (o : Nat) (q j : Nat) : Prop := False
theorem f_X10_onBlack {F : Nat} {o : Nat} {r : Int} {σ' : mMem} {x1 : Int} {σ : mMem} (hf : g_X10_onBlack F o x1 σ = some (r, σ')) : ∀ q j, ¬ T_X10_onBlack o q j → σ' q j = σ q j := by
  unfold g_X10_onBlack at hf
  have hs : ∀ q j, ¬ T_X10_onBlack o q j → σ q j = σ q j := fun _ _ _ => rfl
  refine f_mob hf (fun r1 σ2 h1 hf => ?_)
  have hs := fun q j hq => (f_X10_of h1 q j (by unfold T_X10_of; exact id)).trans (hs q j hq)
  refine f_mob hf (fun r3 σ4 h1 hf => ?_)
  have hs := fun q j hq => (f_X10_of h1 q j (by unfold T_X10_of; exact id)).trans (hs q j hq)
  refine f_mob hf (fun r5 σ6 h1 hf => ?_)
  have hs := fun q j hq => (f_X10_isBlack h1 q j (by unfold T_X10_isBlack; exact id)).trans (hs q j hq)
  refine f_gd hf (fun hf => ?_)
  cases hf
  exact hs
def T_X0_blackSteps  (q j : Nat) : Prop := (q = 29 ∧ (j = 4 ∨ j = 6 ∨ j = 7)) ∨ q = 30 ∨ q = 31 ∨ q = 33 ∨ q = 34
theorem f_X0_blackSteps_b37 {F : Nat}  {r : Int} {σ' : mMem} {k5 : Int → Int → Int → Int → mMem → mRs} (hk5 : ∀ (x1 x2 x3 x4 : Int) (σ : mMem), k5 x1 x2 x3 x4 σ = some (r, σ') → ∀ q j, ¬ T_X0_blackSteps  q j → σ' q j = σ q j) {x1 x2 x4 t0 t1 : Int} {σ : mMem} (hf : g_X0_blackSteps_b37 F k5 x1 x2 x4 t0 t1 σ = some (r, σ')) : ∀ q j, ¬ T_X0_blackSteps  q j → σ' q j = σ q j := by
  unfold g_X0_blackSteps_b37 at hf
  have hs : ∀ q j, ¬ T_X0_blackSteps  q j → σ q j = σ q j := fun _ _ _ => rfl
  refine f_let hf (fun y205 hf => ?_)
  exact fun q j hq => (hk5 _ _ _ _ _ hf q j hq).trans (hs q j hq)
theorem f_X0_blackSteps_h5 {F : Nat}  {r : Int} {σ' : mMem}   (n : Nat) : ∀ {x1 x2 x3 x4 : Int} {σ : mMem} (_ : g_X0_blackSteps_h5 F n x1 x2 x3 x4 σ = some (r, σ')), ∀ q j, ¬ T_X0_blackSteps  q j → σ' q j = σ q j := by
  induction n with
  | zero =>
    intro x1 x2 x3 x4 σ hf
    unfold g_X0_blackSteps_h5 at hf
    cases hf
  | succ n ih =>
    have hk5 : ∀ (x1 x2 x3 x4 : Int) (σ : mMem), g_X0_blackSteps_h5 F n x1 x2 x3 x4 σ = some (r, σ') → ∀ q j, ¬ T_X0_blackSteps  q j → σ' q j = σ q j := fun x1 x2 x3 x4 σ hf => ih hf
    intro x1 x2 x3 x4 σ hf
    unfold g_X0_blackSteps_h5 at hf
    have hs : ∀ q j, ¬ T_X0_blackSteps  q j → σ q j = σ q j := fun _ _ _ => rfl
    refine f_ite hf (fun hf => ?_) (fun hf => ?_)
    · cases hf
      exact hs
    · refine f_mob hf (fun r101 σ102 h1 hf => ?_)
      have hs := fun q j hq => (f_X10_pass h1 q j (by unfold T_X0_blackSteps at hq; unfold T_X10_pass; omega)).trans (hs q j hq)
      refine f_mob hf (fun r103 σ104 h1 hf => ?_)
      have hs := fun q j hq => (f_X10_onBlack h1 q j (by unfold T_X10_onBlack; exact id)).trans (hs q j hq)
      refine f_ite hf (fun hf => ?_) (fun hf => ?_)
      · exact fun q j hq => (f_X0_blackSteps_b37 hk5 hf q j hq).trans (hs q j hq)
      · exact fun q j hq => (f_X0_blackSteps_b37 hk5 hf q j hq).trans (hs q j hq)
theorem f_X0_blackSteps {F : Nat}  {r : Int} {σ' : mMem} {x1 x2 : Int} {σ : mMem} (hf : g_X0_blackSteps F x1 x2 σ = some (r, σ')) : ∀ q j, ¬ T_X0_blackSteps  q j → σ' q j = σ q j := by
  unfold g_X0_blackSteps at hf
  have hs : ∀ q j, ¬ T_X0_blackSteps  q j → σ q j = σ q j := fun _ _ _ => rfl
  exact fun q j hq => (f_X0_blackSteps_h5 _ hf q j hq).trans (hs q j hq)
def T_X0_bestEyes (w1 : Nat) (q j : Nat) : Prop := (q = 29 ∧ (j = 3 ∨ j = 4 ∨ j = 5 ∨ j = 6 ∨ j = 7)) ∨ q = 30 ∨ q = 31 ∨ q = 33 ∨ q = 34
theorem f_X0_bestEyes_b118 {F : Nat} {w1 : Nat} {r : Int} {σ' : mMem}   {t0 : Int} {σ : mMem} (hf : g_X0_bestEyes_b118 F w1 t0 σ = some (r, σ')) : ∀ q j, ¬ T_X0_bestEyes w1 q j → σ' q j = σ q j := by
  unfold g_X0_bestEyes_b118 at hf
  have hs : ∀ q j, ¬ T_X0_bestEyes w1 q j → σ q j = σ q j := fun _ _ _ => rfl
  cases hf
  exact hs
theorem f_X0_bestEyes_b85 {F : Nat} {w1 : Nat} {r : Int} {σ' : mMem} {k12 : Int → Int → Int → Int → Int → Int → Int → mMem → mRs} {k21 : Int → Int → Int → Int → Int → Int → Int → Int → mMem → mRs} (hk12 : ∀ (x2 x3 x4 x5 x6 x7 x8 : Int) (σ : mMem), k12 x2 x3 x4 x5 x6 x7 x8 σ = some (r, σ') → ∀ q j, ¬ T_X0_bestEyes w1 q j → σ' q j = σ q j) (hk21 : ∀ (x2 x3 x4 x5 x6 x7 x8 x9 : Int) (σ : mMem), k21 x2 x3 x4 x5 x6 x7 x8 x9 σ = some (r, σ') → ∀ q j, ¬ T_X0_bestEyes w1 q j → σ' q j = σ q j) {x2 x3 x4 x5 x6 x7 x8 x9 : Int} {σ : mMem} (hf : g_X0_bestEyes_b85 F w1 k12 k21 x2 x3 x4 x5 x6 x7 x8 x9 σ = some (r, σ')) : ∀ q j, ¬ T_X0_bestEyes w1 q j → σ' q j = σ q j := by
  unfold g_X0_bestEyes_b85 at hf
  have hs : ∀ q j, ¬ T_X0_bestEyes w1 q j → σ q j = σ q j := fun _ _ _ => rfl
  exact fun q j hq => (hk21 _ _ _ _ _ _ _ _ _ hf q j hq).trans (hs q j hq)
theorem f_X0_bestEyes_h21 {F : Nat} {w1 : Nat} {r : Int} {σ' : mMem} {k12 : Int → Int → Int → Int → Int → Int → Int → mMem → mRs} (hk12 : ∀ (x2 x3 x4 x5 x6 x7 x8 : Int) (σ : mMem), k12 x2 x3 x4 x5 x6 x7 x8 σ = some (r, σ') → ∀ q j, ¬ T_X0_bestEyes w1 q j → σ' q j = σ q j) (n : Nat) : ∀ {x2 x3 x4 x5 x6 x7 x8 x9 : Int} {σ : mMem} (_ : g_X0_bestEyes_h21 F w1 k12 n x2 x3 x4 x5 x6 x7 x8 x9 σ = some (r, σ')), ∀ q j, ¬ T_X0_bestEyes w1 q j → σ' q j = σ q j := by
  induction n with
  | zero =>
    intro x2 x3 x4 x5 x6 x7 x8 x9 σ hf
    unfold g_X0_bestEyes_h21 at hf
    cases hf
  | succ n ih =>
    have hk21 : ∀ (x2 x3 x4 x5 x6 x7 x8 x9 : Int) (σ : mMem), g_X0_bestEyes_h21 F w1 k12 n x2 x3 x4 x5 x6 x7 x8 x9 σ = some (r, σ') → ∀ q j, ¬ T_X0_bestEyes w1 q j → σ' q j = σ q j := fun x2 x3 x4 x5 x6 x7 x8 x9 σ hf => ih hf
    intro x2 x3 x4 x5 x6 x7 x8 x9 σ hf
    unfold g_X0_bestEyes_h21 at hf
    have hs : ∀ q j, ¬ T_X0_bestEyes w1 q j → σ q j = σ q j := fun _ _ _ => rfl
    refine f_ite hf (fun hf => ?_) (fun hf => ?_)
    · exact fun q j hq => (hk12 _ _ _ _ _ _ _ _ hf q j hq).trans (hs q j hq)
    · refine f_mob hf (fun r301 σ302 h1 hf => ?_)
      have hs := fun q j hq => (f_X10_copyFrom h1 q j (by unfold T_X0_bestEyes at hq; unfold T_X10_copyFrom; omega)).trans (hs q j hq)
      refine f_mob hf (fun r303 σ304 h1 hf => ?_)
      have hs := fun q j hq => (f_X10_set h1 q j (by unfold T_X0_bestEyes at hq; unfold T_X10_set; omega)).trans (hs q j hq)
      refine f_mob hf (fun r305 σ306 h1 hf => ?_)
      have hs := fun q j hq => (f_X10_set h1 q j (by unfold T_X0_bestEyes at hq; unfold T_X10_set; omega)).trans (hs q j hq)
      refine f_mob hf (fun r307 σ308 h1 hf => ?_)
      have hs := fun q j hq => (f_X0_blackSteps h1 q j (by unfold T_X0_bestEyes at hq; unfold T_X0_blackSteps; omega)).trans (hs q j hq)
      refine f_ite hf (fun hf => ?_) (fun hf => ?_)
      · exact fun q j hq => (f_X0_bestEyes_b85 hk12 hk21 hf q j hq).trans (hs q j hq)
      · exact fun q j hq => (f_X0_bestEyes_b85 hk12 hk21 hf q j hq).trans (hs q j hq)
theorem f_X0_bestEyes_h12 {F : Nat} {w1 : Nat} {r : Int} {σ' : mMem}   (n : Nat) : ∀ {x2 x3 x4 x5 x6 x7 x8 : Int} {σ : mMem} (_ : g_X0_bestEyes_h12 F w1 n x2 x3 x4 x5 x6 x7 x8 σ = some (r, σ')), ∀ q j, ¬ T_X0_bestEyes w1 q j → σ' q j = σ q j := by
  induction n with
  | zero =>
    intro x2 x3 x4 x5 x6 x7 x8 σ hf
    unfold g_X0_bestEyes_h12 at hf
    cases hf
  | succ n ih =>
    have hk12 : ∀ (x2 x3 x4 x5 x6 x7 x8 : Int) (σ : mMem), g_X0_bestEyes_h12 F w1 n x2 x3 x4 x5 x6 x7 x8 σ = some (r, σ') → ∀ q j, ¬ T_X0_bestEyes w1 q j → σ' q j = σ q j := fun x2 x3 x4 x5 x6 x7 x8 σ hf => ih hf
    intro x2 x3 x4 x5 x6 x7 x8 σ hf
    unfold g_X0_bestEyes_h12 at hf
    have hs : ∀ q j, ¬ T_X0_bestEyes w1 q j → σ q j = σ q j := fun _ _ _ => rfl
    refine f_ite hf (fun hf => ?_) (fun hf => ?_)
    · refine f_ite hf (fun hf => ?_) (fun hf => ?_)
      · refine f_ite hf (fun hf => ?_) (fun hf => ?_)
        · exact fun q j hq => (f_X0_bestEyes_b118 hf q j hq).trans (hs q j hq)
        · exact fun q j hq => (f_X0_bestEyes_b118 hf q j hq).trans (hs q j hq)
      · cases hf
        exact hs
    · exact fun q j hq => (f_X0_bestEyes_h21 hk12 _ hf q j hq).trans (hs q j hq)
theorem f_X0_bestEyes {F : Nat} {w1 : Nat} {r : Int} {σ' : mMem} {x2 x3 x4 : Int} {σ : mMem} (hf : g_X0_bestEyes F w1 x2 x3 x4 σ = some (r, σ')) : ∀ q j, ¬ T_X0_bestEyes w1 q j → σ' q j = σ q j := by
  unfold g_X0_bestEyes at hf
  have hs : ∀ q j, ¬ T_X0_bestEyes w1 q j → σ q j = σ q j := fun _ _ _ => rfl
  exact fun q j hq => (f_X0_bestEyes_h12 _ hf q j hq).trans (hs q j hq)
def T_J7_fill_53178 (a0 : Nat) (q j : Nat) : Prop := q = a0
theorem f_J7_fill_53178_h5 {F : Nat} {a0 n0 : Nat} {r : Int} {σ' : mMem}   (n : Nat) : ∀ {x1 x2 x3 : Int} {σ : mMem} (_ : g_J7_fill_53178_h5 F a0 n0 n x1 x2 x3 σ = some (r, σ')), ∀ q j, ¬ T_J7_fill_53178 a0 q j → σ' q j = σ q j := by
  induction n with
  | zero =>
    intro x1 x2 x3 σ hf
    unfold g_J7_fill_53178_h5 at hf
    cases hf
  | succ n ih =>
    have hk5 : ∀ (x1 x2 x3 : Int) (σ : mMem), g_J7_fill_53178_h5 F a0 n0 n x1 x2 x3 σ = some (r, σ') → ∀ q j, ¬ T_J7_fill_53178 a0 q j → σ' q j = σ q j := fun x1 x2 x3 σ hf => ih hf
    intro x1 x2 x3 σ hf
    unfold g_J7_fill_53178_h5 at hf
    have hs : ∀ q j, ¬ T_J7_fill_53178 a0 q j → σ q j = σ q j := fun _ _ _ => rfl
    refine f_ite hf (fun hf => ?_) (fun hf => ?_)
    · cases hf
      exact hs
    · refine f_gd hf (fun hf => ?_)
      refine f_mem hf (fun q j hq => (mup_ne (by unfold T_J7_fill_53178 at hq; omega)).trans (hs q j hq)) (fun σ102 hs hf => ?_)
      exact fun q j hq => (hk5 _ _ _ _ hf q j hq).trans (hs q j hq)
theorem f_J7_fill_53178 {F : Nat} {a0 n0 : Nat} {r : Int} {σ' : mMem} {x1 : Int} {σ : mMem} (hf : g_J7_fill_53178 F a0 n0 x1 σ = some (r, σ')) : ∀ q j, ¬ T_J7_fill_53178 a0 q j → σ' q j = σ q j := by
  unfold g_J7_fill_53178 at hf
  have hs : ∀ q j, ¬ T_J7_fill_53178 a0 q j → σ q j = σ q j := fun _ _ _ => rfl
  refine f_let hf (fun y1 hf => ?_)
  exact fun q j hq => (f_J7_fill_53178_h5 _ hf q j hq).trans (hs q j hq)
def T_X0_reach  (q j : Nat) : Prop := (q = 26 ∧ (j = 3)) ∨ q = 27 ∨ q = 28
theorem f_X0_reach_b76 {F : Nat}  {r : Int} {σ' : mMem}   {σ : mMem} (hf : g_X0_reach_b76 F  σ = some (r, σ')) : ∀ q j, ¬ T_X0_reach  q j → σ' q j = σ q j := by
  unfold g_X0_reach_b76 at hf
  have hs : ∀ q j, ¬ T_X0_reach  q j → σ q j = σ q j := fun _ _ _ => rfl
  cases hf
  exact hs
theorem f_X0_reach {F : Nat}  {r : Int} {σ' : mMem} {x1 x2 x3 x4 : Int} {σ : mMem} (hf : g_X0_reach F x1 x2 x3 x4 σ = some (r, σ')) : ∀ q j, ¬ T_X0_reach  q j → σ' q j = σ q j := by
  unfold g_X0_reach at hf
  have hs : ∀ q j, ¬ T_X0_reach  q j → σ q j = σ q j := fun _ _ _ => rfl
  refine f_let hf (fun y1 hf => ?_)
  refine f_ite hf (fun hf => ?_) (fun hf => ?_)
  · exact fun q j hq => (f_X0_reach_b76 hf q j hq).trans (hs q j hq)
  · refine f_ite hf (fun hf => ?_) (fun hf => ?_)
    · exact fun q j hq => (f_X0_reach_b76 hf q j hq).trans (hs q j hq)
    · refine f_ite hf (fun hf => ?_) (fun hf => ?_)
      · exact fun q j hq => (f_X0_reach_b76 hf q j hq).trans (hs q j hq)
      · refine f_gd hf (fun hf => ?_)
        refine f_ite hf (fun hf => ?_) (fun hf => ?_)
        · exact fun q j hq => (f_X0_reach_b76 hf q j hq).trans (hs q j hq)
        · refine f_gd hf (fun hf => ?_)
          refine f_mem hf (fun q j hq => (mup_ne (by unfold T_X0_reach at hq; omega)).trans (hs q j hq)) (fun σ2 hs hf => ?_)
          refine f_gd hf (fun hf => ?_)
          refine f_mem hf (fun q j hq => (mup_ne (by unfold T_X0_reach at hq; omega)).trans (hs q j hq)) (fun σ3 hs hf => ?_)
          refine f_mem hf (fun q j hq => (mup_ne (by unfold T_X0_reach at hq; omega)).trans (hs q j hq)) (fun σ4 hs hf => ?_)
          exact fun q j hq => (f_X0_reach_b76 hf q j hq).trans (hs q j hq)
def T_X0_fewestMoves (w1 : Nat) (q j : Nat) : Prop := (q = 26 ∧ (j = 3)) ∨ q = 27 ∨ q = 28
theorem f_X0_fewestMoves_b221 {F : Nat} {w1 : Nat} {r : Int} {σ' : mMem}   {σ : mMem} (hf : g_X0_fewestMoves_b221 F w1  σ = some (r, σ')) : ∀ q j, ¬ T_X0_fewestMoves w1 q j → σ' q j = σ q j := by
  unfold g_X0_fewestMoves_b221 at hf
  have hs : ∀ q j, ¬ T_X0_fewestMoves w1 q j → σ q j = σ q j := fun _ _ _ => rfl
  cases hf
  exact hs
theorem f_X0_fewestMoves_b215 {F : Nat} {w1 : Nat} {r : Int} {σ' : mMem} {k38 : Int → Int → mMem → mRs} (hk38 : ∀ (x2 x3 : Int) (σ : mMem), k38 x2 x3 σ = some (r, σ') → ∀ q j, ¬ T_X0_fewestMoves w1 q j → σ' q j = σ q j) {x2 x3 : Int} {σ : mMem} (hf : g_X0_fewestMoves_b215 F w1 k38 x2 x3 σ = some (r, σ')) : ∀ q j, ¬ T_X0_fewestMoves w1 q j → σ' q j = σ q j := by
  unfold g_X0_fewestMoves_b215 at hf
  have hs : ∀ q j, ¬ T_X0_fewestMoves w1 q j → σ q j = σ q j := fun _ _ _ => rfl
  exact fun q j hq => (hk38 _ _ _ hf q j hq).trans (hs q j hq)
theorem f_X0_fewestMoves_b203 {F : Nat} {w1 : Nat} {r : Int} {σ' : mMem} {k38 : Int → Int → mMem → mRs} (hk38 : ∀ (x2 x3 : Int) (σ : mMem), k38 x2 x3 σ = some (r, σ') → ∀ q j, ¬ T_X0_fewestMoves w1 q j → σ' q j = σ q j) {x2 x3 x5 x8 x9 x10 : Int} {σ : mMem} (hf : g_X0_fewestMoves_b203 F w1 k38 x2 x3 x5 x8 x9 x10 σ = some (r, σ')) : ∀ q j, ¬ T_X0_fewestMoves w1 q j → σ' q j = σ q j := by
  unfold g_X0_fewestMoves_b203 at hf
  have hs : ∀ q j, ¬ T_X0_fewestMoves w1 q j → σ q j = σ q j := fun _ _ _ => rfl
  refine f_mob hf (fun r434 σ435 h1 hf => ?_)
  have hs := fun q j hq => (f_X0_reach h1 q j (by unfold T_X0_fewestMoves at hq; unfold T_X0_reach; omega)).trans (hs q j hq)
  exact fun q j hq => (f_X0_fewestMoves_b215 hk38 hf q j hq).trans (hs q j hq)
theorem f_X0_fewestMoves_h38 {F : Nat} {w1 : Nat} {r : Int} {σ' : mMem}   (n : Nat) : ∀ {x2 x3 : Int} {σ : mMem} (_ : g_X0_fewestMoves_h38 F w1 n x2 x3 σ = some (r, σ')), ∀ q j, ¬ T_X0_fewestMoves w1 q j → σ' q j = σ q j := by
  induction n with
  | zero =>
    intro x2 x3 σ hf
    unfold g_X0_fewestMoves_h38 at hf
    cases hf
  | succ n ih =>
    have hk38 : ∀ (x2 x3 : Int) (σ : mMem), g_X0_fewestMoves_h38 F w1 n x2 x3 σ = some (r, σ') → ∀ q j, ¬ T_X0_fewestMoves w1 q j → σ' q j = σ q j := fun x2 x3 σ hf => ih hf
    intro x2 x3 σ hf
    unfold g_X0_fewestMoves_h38 at hf
    have hs : ∀ q j, ¬ T_X0_fewestMoves w1 q j → σ q j = σ q j := fun _ _ _ => rfl
    refine f_ite hf (fun hf => ?_) (fun hf => ?_)
    · exact fun q j hq => (f_X0_fewestMoves_b221 hf q j hq).trans (hs q j hq)
    · refine f_ite hf (fun hf => ?_) (fun hf => ?_)
      · exact fun q j hq => (f_X0_fewestMoves_b221 hf q j hq).trans (hs q j hq)
      · refine f_gd hf (fun hf => ?_)
        refine f_let hf (fun y112 hf => ?_)
        refine f_let hf (fun y113 hf => ?_)
        refine f_dv hf (fun hf => ?_)
        refine f_let hf (fun y114 hf => ?_)
        refine f_dv hf (fun hf => ?_)
        refine f_let hf (fun y115 hf => ?_)
        refine f_mob hf (fun r116 σ117 h1 hf => ?_)
        have hs := fun q j hq => (f_X10_isBlack h1 q j (by unfold T_X10_isBlack; exact id)).trans (hs q j hq)
        refine f_ite hf (fun hf => ?_) (fun hf => ?_)
        · refine f_gd hf (fun hf => ?_)
          refine f_let hf (fun y118 hf => ?_)
          refine f_mob hf (fun r119 σ120 h1 hf => ?_)
          have hs := fun q j hq => (f_X0_reach h1 q j (by unfold T_X0_fewestMoves at hq; unfold T_X0_reach; omega)).trans (hs q j hq)
          refine f_mob hf (fun r121 σ122 h1 hf => ?_)
          have hs := fun q j hq => (f_X0_reach h1 q j (by unfold T_X0_fewestMoves at hq; unfold T_X0_reach; omega)).trans (hs q j hq)
          refine f_mob hf (fun r123 σ124 h1 hf => ?_)
          have hs := fun q j hq => (f_X10_columnStep h1 q j (by unfold T_X10_columnStep; exact id)).trans (hs q j hq)
          refine f_let hf (fun y125 hf => ?_)
          refine f_mob hf (fun r126 σ127 h1 hf => ?_)
          have hs := fun q j hq => (f_X10_rowStep h1 q j (by unfold T_X10_rowStep; exact id)).trans (hs q j hq)
          refine f_let hf (fun y128 hf => ?_)
          refine f_mob hf (fun r129 σ130 h1 hf => ?_)
          have hs := fun q j hq => (f_X10_boxOn h1 q j (by unfold T_X10_boxOn; exact id)).trans (hs q j hq)
          refine f_gp hf (fun hg131 hf => ?_)
          refine f_mob hf (fun r132 σ133 h1 hf => ?_)
          have hs := fun q j hq => (f_X5_hasCell h1 q j (by unfold T_X5_hasCell; exact id)).trans (hs q j hq)
          refine f_ite hf (fun hf => ?_) (fun hf => ?_)
          · exact fun q j hq => (f_X0_fewestMoves_b215 hk38 hf q j hq).trans (hs q j hq)
          · refine f_ite hf (fun hf => ?_) (fun hf => ?_)
            · exact fun q j hq => (f_X0_fewestMoves_b203 hk38 hf q j hq).trans (hs q j hq)
            · refine f_ite hf (fun hf => ?_) (fun hf => ?_)
              · exact fun q j hq => (f_X0_fewestMoves_b215 hk38 hf q j hq).trans (hs q j hq)
              · exact fun q j hq => (f_X0_fewestMoves_b203 hk38 hf q j hq).trans (hs q j hq)
        · refine f_gd hf (fun hf => ?_)
          cases hf
          exact hs
theorem f_X0_fewestMoves {F : Nat} {w1 : Nat} {r : Int} {σ' : mMem} {x2 : Int} {σ : mMem} (hf : g_X0_fewestMoves F w1 x2 σ = some (r, σ')) : ∀ q j, ¬ T_X0_fewestMoves w1 q j → σ' q j = σ q j := by
  unfold g_X0_fewestMoves at hf
  have hs : ∀ q j, ¬ T_X0_fewestMoves w1 q j → σ q j = σ q j := fun _ _ _ => rfl
  refine f_mob hf (fun r1 σ2 h1 hf => ?_)
  have hs := fun q j hq => (f_J7_fill_53178 h1 q j (by unfold T_X0_fewestMoves at hq; unfold T_J7_fill_53178; omega)).trans (hs q j hq)
  refine f_mem hf (fun q j hq => (mup_ne (by unfold T_X0_fewestMoves at hq; omega)).trans (hs q j hq)) (fun σ3 hs hf => ?_)
  refine f_mob hf (fun r4 σ5 h1 hf => ?_)
  have hs := fun q j hq => (f_X10_of h1 q j (by unfold T_X10_of; exact id)).trans (hs q j hq)
  refine f_mob hf (fun r6 σ7 h1 hf => ?_)
  have hs := fun q j hq => (f_X10_of h1 q j (by unfold T_X10_of; exact id)).trans (hs q j hq)
  refine f_mob hf (fun r8 σ9 h1 hf => ?_)
  have hs := fun q j hq => (f_X10_of h1 q j (by unfold T_X10_of; exact id)).trans (hs q j hq)
  refine f_mob hf (fun r10 σ11 h1 hf => ?_)
  have hs := fun q j hq => (f_X0_reach h1 q j (by unfold T_X0_fewestMoves at hq; unfold T_X0_reach; omega)).trans (hs q j hq)
  exact fun q j hq => (f_X0_fewestMoves_h38 _ hf q j hq).trans (hs q j hq)
def T_X0_leastDelay (w1 : Nat) (q j : Nat) : Prop := (q = 29 ∧ (j = 3 ∨ j = 4 ∨ j = 5 ∨ j = 6 ∨ j = 7)) ∨ q = 30 ∨ q = 31 ∨ q = 33 ∨ q = 34
theorem f_X0_leastDelay_b66 {F : Nat} {w1 : Nat} {r : Int} {σ' : mMem} {k2 : Int → Int → mMem → mRs} (hk2 : ∀ (x2 x3 : Int) (σ : mMem), k2 x2 x3 σ = some (r, σ') → ∀ q j, ¬ T_X0_leastDelay w1 q j → σ' q j = σ q j) {x2 x3 x4 : Int} {σ : mMem} (hf : g_X0_leastDelay_b66 F w1 k2 x2 x3 x4 σ = some (r, σ')) : ∀ q j, ¬ T_X0_leastDelay w1 q j → σ' q j = σ q j := by
  unfold g_X0_leastDelay_b66 at hf
  have hs : ∀ q j, ¬ T_X0_leastDelay w1 q j → σ q j = σ q j := fun _ _ _ => rfl
  refine f_ite hf (fun hf => ?_) (fun hf => ?_)
  · exact fun q j hq => (hk2 _ _ _ hf q j hq).trans (hs q j hq)
  · cases hf
    exact hs
theorem f_X0_leastDelay_b58 {F : Nat} {w1 : Nat} {r : Int} {σ' : mMem} {k2 : Int → Int → mMem → mRs} {k22 : Int → Int → Int → Int → mMem → mRs} (hk2 : ∀ (x2 x3 : Int) (σ : mMem), k2 x2 x3 σ = some (r, σ') → ∀ q j, ¬ T_X0_leastDelay w1 q j → σ' q j = σ q j) (hk22 : ∀ (x2 x3 x4 x5 : Int) (σ : mMem), k22 x2 x3 x4 x5 σ = some (r, σ') → ∀ q j, ¬ T_X0_leastDelay w1 q j → σ' q j = σ q j) {x2 x3 x5 t0 : Int} {σ : mMem} (hf : g_X0_leastDelay_b58 F w1 k2 k22 x2 x3 x5 t0 σ = some (r, σ')) : ∀ q j, ¬ T_X0_leastDelay w1 q j → σ' q j = σ q j := by
  unfold g_X0_leastDelay_b58 at hf
  have hs : ∀ q j, ¬ T_X0_leastDelay w1 q j → σ q j = σ q j := fun _ _ _ => rfl
  exact fun q j hq => (hk22 _ _ _ _ _ hf q j hq).trans (hs q j hq)
theorem f_X0_leastDelay_h22 {F : Nat} {w1 : Nat} {r : Int} {σ' : mMem} {k2 : Int → Int → mMem → mRs} (hk2 : ∀ (x2 x3 : Int) (σ : mMem), k2 x2 x3 σ = some (r, σ') → ∀ q j, ¬ T_X0_leastDelay w1 q j → σ' q j = σ q j) (n : Nat) : ∀ {x2 x3 x4 x5 : Int} {σ : mMem} (_ : g_X0_leastDelay_h22 F w1 k2 n x2 x3 x4 x5 σ = some (r, σ')), ∀ q j, ¬ T_X0_leastDelay w1 q j → σ' q j = σ q j := by
  induction n with
  | zero =>
    intro x2 x3 x4 x5 σ hf
    unfold g_X0_leastDelay_h22 at hf
    cases hf
  | succ n ih =>
    have hk22 : ∀ (x2 x3 x4 x5 : Int) (σ : mMem), g_X0_leastDelay_h22 F w1 k2 n x2 x3 x4 x5 σ = some (r, σ') → ∀ q j, ¬ T_X0_leastDelay w1 q j → σ' q j = σ q j := fun x2 x3 x4 x5 σ hf => ih hf
    intro x2 x3 x4 x5 σ hf
    unfold g_X0_leastDelay_h22 at hf
    have hs : ∀ q j, ¬ T_X0_leastDelay w1 q j → σ q j = σ q j := fun _ _ _ => rfl
    refine f_ite hf (fun hf => ?_) (fun hf => ?_)
    · exact fun q j hq => (f_X0_leastDelay_b66 hk2 hf q j hq).trans (hs q j hq)
    · refine f_ite hf (fun hf => ?_) (fun hf => ?_)
      · exact fun q j hq => (f_X0_leastDelay_b66 hk2 hf q j hq).trans (hs q j hq)
      · refine f_mob hf (fun r203 σ204 h1 hf => ?_)
        have hs := fun q j hq => (f_X10_pass h1 q j (by unfold T_X0_leastDelay at hq; unfold T_X10_pass; omega)).trans (hs q j hq)
        refine f_ite hf (fun hf => ?_) (fun hf => ?_)
        · exact fun q j hq => (f_X0_leastDelay_b58 hk2 hk22 hf q j hq).trans (hs q j hq)
        · exact fun q j hq => (f_X0_leastDelay_b58 hk2 hk22 hf q j hq).trans (hs q j hq)
theorem f_X0_leastDelay_h2 {F : Nat} {w1 : Nat} {r : Int} {σ' : mMem}   (n : Nat) : ∀ {x2 x3 : Int} {σ : mMem} (_ : g_X0_leastDelay_h2 F w1 n x2 x3 σ = some (r, σ')), ∀ q j, ¬ T_X0_leastDelay w1 q j → σ' q j = σ q j := by
  induction n with
  | zero =>
    intro x2 x3 σ hf
    unfold g_X0_leastDelay_h2 at hf
    cases hf
  | succ n ih =>
    have hk2 : ∀ (x2 x3 : Int) (σ : mMem), g_X0_leastDelay_h2 F w1 n x2 x3 σ = some (r, σ') → ∀ q j, ¬ T_X0_leastDelay w1 q j → σ' q j = σ q j := fun x2 x3 σ hf => ih hf
    intro x2 x3 σ hf
    unfold g_X0_leastDelay_h2 at hf
    have hs : ∀ q j, ¬ T_X0_leastDelay w1 q j → σ q j = σ q j := fun _ _ _ => rfl
    refine f_ite hf (fun hf => ?_) (fun hf => ?_)
    · cases hf
      exact hs
    · refine f_mob hf (fun r101 σ102 h1 hf => ?_)
      have hs := fun q j hq => (f_X10_copyFrom h1 q j (by unfold T_X0_leastDelay at hq; unfold T_X10_copyFrom; omega)).trans (hs q j hq)
      exact fun q j hq => (f_X0_leastDelay_h22 hk2 _ hf q j hq).trans (hs q j hq)
theorem f_X0_leastDelay {F : Nat} {w1 : Nat} {r : Int} {σ' : mMem} {x2 : Int} {σ : mMem} (hf : g_X0_leastDelay F w1 x2 σ = some (r, σ')) : ∀ q j, ¬ T_X0_leastDelay w1 q j → σ' q j = σ q j := by
  unfold g_X0_leastDelay at hf
  have hs : ∀ q j, ¬ T_X0_leastDelay w1 q j → σ q j = σ q j := fun _ _ _ => rfl
  exact fun q j hq => (f_X0_leastDelay_h2 _ hf q j hq).trans (hs q j hq)
def T_X10_lostBoxes (o : Nat) (q j : Nat) : Prop := False
theorem f_X10_lostBoxes_b30 {F : Nat} {o : Nat} {r : Int} {σ' : mMem} {k4 : Int → Int → mMem → mRs} (hk4 : ∀ (x1 x2 : Int) (σ : mMem), k4 x1 x2 σ = some (r, σ') → ∀ q j, ¬ T_X10_lostBoxes o q j → σ' q j = σ q j) {x2 t0 t1 : Int} {σ : mMem} (hf : g_X10_lostBoxes_b30 F o k4 x2 t0 t1 σ = some (r, σ')) : ∀ q j, ¬ T_X10_lostBoxes o q j → σ' q j = σ q j := by
  unfold g_X10_lostBoxes_b30 at hf
  have hs : ∀ q j, ¬ T_X10_lostBoxes o q j → σ q j = σ q j := fun _ _ _ => rfl
  refine f_let hf (fun y204 hf => ?_)
  exact fun q j hq => (hk4 _ _ _ hf q j hq).trans (hs q j hq)
theorem f_X10_lostBoxes_h4 {F : Nat} {o : Nat} {r : Int} {σ' : mMem}   (n : Nat) : ∀ {x1 x2 : Int} {σ : mMem} (_ : g_X10_lostBoxes_h4 F o n x1 x2 σ = some (r, σ')), ∀ q j, ¬ T_X10_lostBoxes o q j → σ' q j = σ q j := by
  induction n with
  | zero =>
    intro x1 x2 σ hf
    unfold g_X10_lostBoxes_h4 at hf
    cases hf
  | succ n ih =>
    have hk4 : ∀ (x1 x2 : Int) (σ : mMem), g_X10_lostBoxes_h4 F o n x1 x2 σ = some (r, σ') → ∀ q j, ¬ T_X10_lostBoxes o q j → σ' q j = σ q j := fun x1 x2 σ hf => ih hf
    intro x1 x2 σ hf
    unfold g_X10_lostBoxes_h4 at hf
    have hs : ∀ q j, ¬ T_X10_lostBoxes o q j → σ q j = σ q j := fun _ _ _ => rfl
    refine f_gp hf (fun hg101 hf => ?_)
    refine f_ite hf (fun hf => ?_) (fun hf => ?_)
    · cases hf
      exact hs
    · refine f_mob hf (fun r102 σ103 h1 hf => ?_)
      have hs := fun q j hq => (f_X10_of h1 q j (by unfold T_X10_of; exact id)).trans (hs q j hq)
      refine f_ite hf (fun hf => ?_) (fun hf => ?_)
      · exact fun q j hq => (f_X10_lostBoxes_b30 hk4 hf q j hq).trans (hs q j hq)
      · exact fun q j hq => (f_X10_lostBoxes_b30 hk4 hf q j hq).trans (hs q j hq)
theorem f_X10_lostBoxes {F : Nat} {o : Nat} {r : Int} {σ' : mMem} {σ : mMem} (hf : g_X10_lostBoxes F o σ = some (r, σ')) : ∀ q j, ¬ T_X10_lostBoxes o q j → σ' q j = σ q j := by
  unfold g_X10_lostBoxes at hf
  have hs : ∀ q j, ¬ T_X10_lostBoxes o q j → σ q j = σ q j := fun _ _ _ => rfl
  exact fun q j hq => (f_X10_lostBoxes_h4 _ hf q j hq).trans (hs q j hq)
def T_X0_brightestLamp (w1 : Nat) (q j : Nat) : Prop := (q = 29 ∧ (j = 3 ∨ j = 4 ∨ j = 5 ∨ j = 6 ∨ j = 7)) ∨ q = 30 ∨ q = 31 ∨ q = 33 ∨ q = 34
theorem f_X0_brightestLamp_h26 {F : Nat} {w1 : Nat} {r : Int} {σ' : mMem} {k3 : Int → Int → mMem → mRs} (hk3 : ∀ (x2 x3 : Int) (σ : mMem), k3 x2 x3 σ = some (r, σ') → ∀ q j, ¬ T_X0_brightestLamp w1 q j → σ' q j = σ q j) (n : Nat) : ∀ {x2 x3 x4 : Int} {σ : mMem} (_ : g_X0_brightestLamp_h26 F w1 k3 n x2 x3 x4 σ = some (r, σ')), ∀ q j, ¬ T_X0_brightestLamp w1 q j → σ' q j = σ q j := by
  induction n with
  | zero =>
    intro x2 x3 x4 σ hf
    unfold g_X0_brightestLamp_h26 at hf
    cases hf
  | succ n ih =>
    have hk26 : ∀ (x2 x3 x4 : Int) (σ : mMem), g_X0_brightestLamp_h26 F w1 k3 n x2 x3 x4 σ = some (r, σ') → ∀ q j, ¬ T_X0_brightestLamp w1 q j → σ' q j = σ q j := fun x2 x3 x4 σ hf => ih hf
    intro x2 x3 x4 σ hf
    unfold g_X0_brightestLamp_h26 at hf
    have hs : ∀ q j, ¬ T_X0_brightestLamp w1 q j → σ q j = σ q j := fun _ _ _ => rfl
    refine f_ite hf (fun hf => ?_) (fun hf => ?_)
    · refine f_mob hf (fun r204 σ205 h1 hf => ?_)
      have hs := fun q j hq => (f_X10_lostBoxes h1 q j (by unfold T_X10_lostBoxes; exact id)).trans (hs q j hq)
      refine f_ite hf (fun hf => ?_) (fun hf => ?_)
      · exact fun q j hq => (hk3 _ _ _ hf q j hq).trans (hs q j hq)
      · cases hf
        exact hs
    · refine f_mob hf (fun r206 σ207 h1 hf => ?_)
      have hs := fun q j hq => (f_X10_pass h1 q j (by unfold T_X0_brightestLamp at hq; unfold T_X10_pass; omega)).trans (hs q j hq)
      exact fun q j hq => (hk26 _ _ _ _ hf q j hq).trans (hs q j hq)
theorem f_X0_brightestLamp_h3 {F : Nat} {w1 : Nat} {r : Int} {σ' : mMem}   (n : Nat) : ∀ {x2 x3 : Int} {σ : mMem} (_ : g_X0_brightestLamp_h3 F w1 n x2 x3 σ = some (r, σ')), ∀ q j, ¬ T_X0_brightestLamp w1 q j → σ' q j = σ q j := by
  induction n with
  | zero =>
    intro x2 x3 σ hf
    unfold g_X0_brightestLamp_h3 at hf
    cases hf
  | succ n ih =>
    have hk3 : ∀ (x2 x3 : Int) (σ : mMem), g_X0_brightestLamp_h3 F w1 n x2 x3 σ = some (r, σ') → ∀ q j, ¬ T_X0_brightestLamp w1 q j → σ' q j = σ q j := fun x2 x3 σ hf => ih hf
    intro x2 x3 σ hf
    unfold g_X0_brightestLamp_h3 at hf
    have hs : ∀ q j, ¬ T_X0_brightestLamp w1 q j → σ q j = σ q j := fun _ _ _ => rfl
    refine f_ite hf (fun hf => ?_) (fun hf => ?_)
    · cases hf
      exact hs
    · refine f_mob hf (fun r101 σ102 h1 hf => ?_)
      have hs := fun q j hq => (f_X10_copyFrom h1 q j (by unfold T_X0_brightestLamp at hq; unfold T_X10_copyFrom; omega)).trans (hs q j hq)
      refine f_mem hf (fun q j hq => (mup_ne (by unfold T_X0_brightestLamp at hq; omega)).trans (hs q j hq)) (fun σ103 hs hf => ?_)
      exact fun q j hq => (f_X0_brightestLamp_h26 hk3 _ hf q j hq).trans (hs q j hq)
theorem f_X0_brightestLamp {F : Nat} {w1 : Nat} {r : Int} {σ' : mMem} {x2 : Int} {σ : mMem} (hf : g_X0_brightestLamp F w1 x2 σ = some (r, σ')) : ∀ q j, ¬ T_X0_brightestLamp w1 q j → σ' q j = σ q j := by
  unfold g_X0_brightestLamp at hf
  have hs : ∀ q j, ¬ T_X0_brightestLamp w1 q j → σ q j = σ q j := fun _ _ _ => rfl
  exact fun q j hq => (f_X0_brightestLamp_h3 _ hf q j hq).trans (hs q j hq)
def T_X5_emit (o : Nat) (q j : Nat) : Prop := (q = o ∧ (j = 4)) ∨ q = (o + 4)
theorem f_X5_emit_b44 {F : Nat} {o : Nat} {r : Int} {σ' : mMem}   {σ : mMem} (hf : g_X5_emit_b44 F o  σ = some (r, σ')) : ∀ q j, ¬ T_X5_emit o q j → σ' q j = σ q j := by
  unfold g_X5_emit_b44 at hf
  have hs : ∀ q j, ¬ T_X5_emit o q j → σ q j = σ q j := fun _ _ _ => rfl
  cases hf
  exact hs
theorem f_X5_emit {F : Nat} {o : Nat} {r : Int} {σ' : mMem} {x1 x2 : Int} {σ : mMem} (hf : g_X5_emit F o x1 x2 σ = some (r, σ')) : ∀ q j, ¬ T_X5_emit o q j → σ' q j = σ q j := by
  unfold g_X5_emit at hf
  have hs : ∀ q j, ¬ T_X5_emit o q j → σ q j = σ q j := fun _ _ _ => rfl
  refine f_ite hf (fun hf => ?_) (fun hf => ?_)
  · exact fun q j hq => (f_X5_emit_b44 hf q j hq).trans (hs q j hq)
  · refine f_ite hf (fun hf => ?_) (fun hf => ?_)
    · exact fun q j hq => (f_X5_emit_b44 hf q j hq).trans (hs q j hq)
    · refine f_gd hf (fun hf => ?_)
      refine f_mem hf (fun q j hq => (mup_ne (by unfold T_X5_emit at hq; omega)).trans (hs q j hq)) (fun σ1 hs hf => ?_)
      refine f_mem hf (fun q j hq => (mup_ne (by unfold T_X5_emit at hq; omega)).trans (hs q j hq)) (fun σ2 hs hf => ?_)
      exact fun q j hq => (f_X5_emit_b44 hf q j hq).trans (hs q j hq)
def T_X8_isWord  (q j : Nat) : Prop := False
theorem f_X8_isWord_b21 {F : Nat}  {r : Int} {σ' : mMem}   {t0 : Int} {σ : mMem} (hf : g_X8_isWord_b21 F t0 σ = some (r, σ')) : ∀ q j, ¬ T_X8_isWord  q j → σ' q j = σ q j := by
  unfold g_X8_isWord_b21 at hf
  have hs : ∀ q j, ¬ T_X8_isWord  q j → σ q j = σ q j := fun _ _ _ => rfl
  refine f_gd hf (fun hf => ?_)
  cases hf
  exact hs
theorem f_X8_isWord_b20 {F : Nat}  {r : Int} {σ' : mMem}   {σ : mMem} (hf : g_X8_isWord_b20 F  σ = some (r, σ')) : ∀ q j, ¬ T_X8_isWord  q j → σ' q j = σ q j := by
  unfold g_X8_isWord_b20 at hf
  have hs : ∀ q j, ¬ T_X8_isWord  q j → σ q j = σ q j := fun _ _ _ => rfl
  exact fun q j hq => (f_X8_isWord_b21 hf q j hq).trans (hs q j hq)
theorem f_X8_isWord {F : Nat}  {r : Int} {σ' : mMem} {x1 : Int} {σ : mMem} (hf : g_X8_isWord F x1 σ = some (r, σ')) : ∀ q j, ¬ T_X8_isWord  q j → σ' q j = σ q j := by
  unfold g_X8_isWord at hf
  have hs : ∀ q j, ¬ T_X8_isWord  q j → σ q j = σ q j := fun _ _ _ => rfl
  refine f_ite hf (fun hf => ?_) (fun hf => ?_)
  · exact fun q j hq => (f_X8_isWord_b20 hf q j hq).trans (hs q j hq)
  · refine f_ite hf (fun hf => ?_) (fun hf => ?_)
    · exact fun q j hq => (f_X8_isWord_b20 hf q j hq).trans (hs q j hq)
    · exact fun q j hq => (f_X8_isWord_b21 hf q j hq).trans (hs q j hq)
def T_X8_refuseHere  (q j : Nat) : Prop := (q = 14 ∧ (j = 7 ∨ j = 9 ∨ j = 10 ∨ j = 11))
theorem f_X8_refuseHere_b20 {F : Nat}  {r : Int} {σ' : mMem}   {σ : mMem} (hf : g_X8_refuseHere_b20 F  σ = some (r, σ')) : ∀ q j, ¬ T_X8_refuseHere  q j → σ' q j = σ q j := by
  unfold g_X8_refuseHere_b20 at hf
  have hs : ∀ q j, ¬ T_X8_refuseHere  q j → σ q j = σ q j := fun _ _ _ => rfl
  refine f_mem hf (fun q j hq => (mup_ne (by unfold T_X8_refuseHere at hq; omega)).trans (hs q j hq)) (fun σ103 hs hf => ?_)
  refine f_mem hf (fun q j hq => (mup_ne (by unfold T_X8_refuseHere at hq; omega)).trans (hs q j hq)) (fun σ104 hs hf => ?_)
  cases hf
  exact hs
theorem f_X8_refuseHere {F : Nat}  {r : Int} {σ' : mMem} {x1 : Int} {σ : mMem} (hf : g_X8_refuseHere F x1 σ = some (r, σ')) : ∀ q j, ¬ T_X8_refuseHere  q j → σ' q j = σ q j := by
  unfold g_X8_refuseHere at hf
  have hs : ∀ q j, ¬ T_X8_refuseHere  q j → σ q j = σ q j := fun _ _ _ => rfl
  refine f_ite hf (fun hf => ?_) (fun hf => ?_)
  · exact fun q j hq => (f_X8_refuseHere_b20 hf q j hq).trans (hs q j hq)
  · refine f_mem hf (fun q j hq => (mup_ne (by unfold T_X8_refuseHere at hq; omega)).trans (hs q j hq)) (fun σ1 hs hf => ?_)
    refine f_mem hf (fun q j hq => (mup_ne (by unfold T_X8_refuseHere at hq; omega)).trans (hs q j hq)) (fun σ2 hs hf => ?_)
    exact fun q j hq => (f_X8_refuseHere_b20 hf q j hq).trans (hs q j hq)
def T_X8_next  (q j : Nat) : Prop := (q = 14 ∧ (j = 6 ∨ j = 7 ∨ j = 8 ∨ j = 9 ∨ j = 10 ∨ j = 11))
theorem f_X8_next_b48 {F : Nat}  {r : Int} {σ' : mMem}   {σ : mMem} (hf : g_X8_next_b48 F  σ = some (r, σ')) : ∀ q j, ¬ T_X8_next  q j → σ' q j = σ q j := by
  unfold g_X8_next_b48 at hf
  have hs : ∀ q j, ¬ T_X8_next  q j → σ q j = σ q j := fun _ _ _ => rfl
  refine f_mem hf (fun q j hq => (mup_ne (by unfold T_X8_next at hq; omega)).trans (hs q j hq)) (fun σ108 hs hf => ?_)
  refine f_mem hf (fun q j hq => (mup_ne (by unfold T_X8_next at hq; omega)).trans (hs q j hq)) (fun σ109 hs hf => ?_)
  refine f_mem hf (fun q j hq => (mup_ne (by unfold T_X8_next at hq; omega)).trans (hs q j hq)) (fun σ110 hs hf => ?_)
  cases hf
  exact hs
theorem f_X8_next_b130 {F : Nat}  {r : Int} {σ' : mMem}   {σ : mMem} (hf : g_X8_next_b130 F  σ = some (r, σ')) : ∀ q j, ¬ T_X8_next  q j → σ' q j = σ q j := by
  unfold g_X8_next_b130 at hf
  have hs : ∀ q j, ¬ T_X8_next  q j → σ q j = σ q j := fun _ _ _ => rfl
  cases hf
  exact hs
theorem f_X8_next {F : Nat}  {r : Int} {σ' : mMem} {σ : mMem} (hf : g_X8_next F σ = some (r, σ')) : ∀ q j, ¬ T_X8_next  q j → σ' q j = σ q j := by
  unfold g_X8_next at hf
  have hs : ∀ q j, ¬ T_X8_next  q j → σ q j = σ q j := fun _ _ _ => rfl
  refine f_ite hf (fun hf => ?_) (fun hf => ?_)
  · refine f_mem hf (fun q j hq => (mup_ne (by unfold T_X8_next at hq; omega)).trans (hs q j hq)) (fun σ1 hs hf => ?_)
    refine f_ite hf (fun hf => ?_) (fun hf => ?_)
    · exact fun q j hq => (f_X8_next_b48 hf q j hq).trans (hs q j hq)
    · refine f_ite hf (fun hf => ?_) (fun hf => ?_)
      · exact fun q j hq => (f_X8_next_b48 hf q j hq).trans (hs q j hq)
      · refine f_ite hf (fun hf => ?_) (fun hf => ?_)
        · refine f_gd hf (fun hf => ?_)
          refine f_mem hf (fun q j hq => (mup_ne (by unfold T_X8_next at hq; omega)).trans (hs q j hq)) (fun σ2 hs hf => ?_)
          refine f_gd hf (fun hf => ?_)
          refine f_mem hf (fun q j hq => (mup_ne (by unfold T_X8_next at hq; omega)).trans (hs q j hq)) (fun σ3 hs hf => ?_)
          refine f_gd hf (fun hf => ?_)
          refine f_mem hf (fun q j hq => (mup_ne (by unfold T_X8_next at hq; omega)).trans (hs q j hq)) (fun σ4 hs hf => ?_)
          refine f_ite hf (fun hf => ?_) (fun hf => ?_)
          · exact fun q j hq => (f_X8_next_b130 hf q j hq).trans (hs q j hq)
          · refine f_mem hf (fun q j hq => (mup_ne (by unfold T_X8_next at hq; omega)).trans (hs q j hq)) (fun σ5 hs hf => ?_)
            refine f_mob hf (fun r6 σ7 h1 hf => ?_)
            have hs := fun q j hq => (f_X8_refuseHere h1 q j (by unfold T_X8_next at hq; unfold T_X8_refuseHere; omega)).trans (hs q j hq)
            exact fun q j hq => (f_X8_next_b130 hf q j hq).trans (hs q j hq)
        · exact fun q j hq => (f_X8_next_b48 hf q j hq).trans (hs q j hq)
  · cases hf
    exact hs
def T_X1_passOpening  (q j : Nat) : Prop := (q = 14 ∧ (j = 6 ∨ j = 7 ∨ j = 8 ∨ j = 9 ∨ j = 10 ∨ j = 11))
theorem f_X1_passOpening {F : Nat}  {r : Int} {σ' : mMem} {x1 : Int} {σ : mMem} (hf : g_X1_passOpening F x1 σ = some (r, σ')) : ∀ q j, ¬ T_X1_passOpening  q j → σ' q j = σ q j := by
  unfold g_X1_passOpening at hf
  have hs : ∀ q j, ¬ T_X1_passOpening  q j → σ q j = σ q j := fun _ _ _ => rfl
  refine f_ite hf (fun hf => ?_) (fun hf => ?_)
  · refine f_mob hf (fun r1 σ2 h1 hf => ?_)
    have hs := fun q j hq => (f_X8_next h1 q j (by unfold T_X1_passOpening at hq; unfold T_X8_next; omega)).trans (hs q j hq)
    refine f_gd hf (fun hf => ?_)
    cases hf
    exact hs
  · refine f_mob hf (fun r3 σ4 h1 hf => ?_)
    have hs := fun q j hq => (f_X8_refuseHere h1 q j (by unfold T_X1_passOpening at hq; unfold T_X8_refuseHere; omega)).trans (hs q j hq)
    refine f_gd hf (fun hf => ?_)
    cases hf
    exact hs
def T_X8_isMark  (q j : Nat) : Prop := False
theorem f_X8_isMark_b21 {F : Nat}  {r : Int} {σ' : mMem}   {t0 : Int} {σ : mMem} (hf : g_X8_isMark_b21 F t0 σ = some (r, σ')) : ∀ q j, ¬ T_X8_isMark  q j → σ' q j = σ q j := by
  unfold g_X8_isMark_b21 at hf
  have hs : ∀ q j, ¬ T_X8_isMark  q j → σ q j = σ q j := fun _ _ _ => rfl
  refine f_gd hf (fun hf => ?_)
  cases hf
  exact hs
theorem f_X8_isMark_b20 {F : Nat}  {r : Int} {σ' : mMem}   {σ : mMem} (hf : g_X8_isMark_b20 F  σ = some (r, σ')) : ∀ q j, ¬ T_X8_isMark  q j → σ' q j = σ q j := by
  unfold g_X8_isMark_b20 at hf
  have hs : ∀ q j, ¬ T_X8_isMark  q j → σ q j = σ q j := fun _ _ _ => rfl
  exact fun q j hq => (f_X8_isMark_b21 hf q j hq).trans (hs q j hq)
theorem f_X8_isMark {F : Nat}  {r : Int} {σ' : mMem} {x1 : Int} {σ : mMem} (hf : g_X8_isMark F x1 σ = some (r, σ')) : ∀ q j, ¬ T_X8_isMark  q j → σ' q j = σ q j := by
  unfold g_X8_isMark at hf
  have hs : ∀ q j, ¬ T_X8_isMark  q j → σ q j = σ q j := fun _ _ _ => rfl
  refine f_ite hf (fun hf => ?_) (fun hf => ?_)
  · exact fun q j hq => (f_X8_isMark_b20 hf q j hq).trans (hs q j hq)
  · refine f_ite hf (fun hf => ?_) (fun hf => ?_)
    · exact fun q j hq => (f_X8_isMark_b20 hf q j hq).trans (hs q j hq)
    · exact fun q j hq => (f_X8_isMark_b21 hf q j hq).trans (hs q j hq)
def T_X8_takeMark  (q j : Nat) : Prop := (q = 14 ∧ (j = 6 ∨ j = 7 ∨ j = 8 ∨ j = 9 ∨ j = 10 ∨ j = 11))
theorem f_X8_takeMark_b13 {F : Nat}  {r : Int} {σ' : mMem}   {σ : mMem} (hf : g_X8_takeMark_b13 F  σ = some (r, σ')) : ∀ q j, ¬ T_X8_takeMark  q j → σ' q j = σ q j := by
  unfold g_X8_takeMark_b13 at hf
  have hs : ∀ q j, ¬ T_X8_takeMark  q j → σ q j = σ q j := fun _ _ _ => rfl
  refine f_mob hf (fun r105 σ106 h1 hf => ?_)
  have hs := fun q j hq => (f_X8_next h1 q j (by unfold T_X8_takeMark at hq; unfold T_X8_next; omega)).trans (hs q j hq)
  cases hf
  exact hs
theorem f_X8_takeMark {F : Nat}  {r : Int} {σ' : mMem} {x1 : Int} {σ : mMem} (hf : g_X8_takeMark F x1 σ = some (r, σ')) : ∀ q j, ¬ T_X8_takeMark  q j → σ' q j = σ q j := by
  unfold g_X8_takeMark at hf
  have hs : ∀ q j, ¬ T_X8_takeMark  q j → σ q j = σ q j := fun _ _ _ => rfl
  refine f_mob hf (fun r1 σ2 h1 hf => ?_)
  have hs := fun q j hq => (f_X8_isMark h1 q j (by unfold T_X8_isMark; exact id)).trans (hs q j hq)
  refine f_ite hf (fun hf => ?_) (fun hf => ?_)
  · exact fun q j hq => (f_X8_takeMark_b13 hf q j hq).trans (hs q j hq)
  · refine f_mob hf (fun r3 σ4 h1 hf => ?_)
    have hs := fun q j hq => (f_X8_refuseHere h1 q j (by unfold T_X8_takeMark at hq; unfold T_X8_refuseHere; omega)).trans (hs q j hq)
    exact fun q j hq => (f_X8_takeMark_b13 hf q j hq).trans (hs q j hq)
def T_X1_productSign  (q j : Nat) : Prop := False
theorem f_X1_productSign_b47 {F : Nat}  {r : Int} {σ' : mMem}   {t0 : Int} {σ : mMem} (hf : g_X1_productSign_b47 F t0 σ = some (r, σ')) : ∀ q j, ¬ T_X1_productSign  q j → σ' q j = σ q j := by
  unfold g_X1_productSign_b47 at hf
  have hs : ∀ q j, ¬ T_X1_productSign  q j → σ q j = σ q j := fun _ _ _ => rfl
  cases hf
  exact hs
theorem f_X1_productSign {F : Nat}  {r : Int} {σ' : mMem} {σ : mMem} (hf : g_X1_productSign F σ = some (r, σ')) : ∀ q j, ¬ T_X1_productSign  q j → σ' q j = σ q j := by
  unfold g_X1_productSign at hf
  have hs : ∀ q j, ¬ T_X1_productSign  q j → σ q j = σ q j := fun _ _ _ => rfl
  refine f_mob hf (fun r1 σ2 h1 hf => ?_)
  have hs := fun q j hq => (f_X8_isMark h1 q j (by unfold T_X8_isMark; exact id)).trans (hs q j hq)
  refine f_ite hf (fun hf => ?_) (fun hf => ?_)
  · refine f_mob hf (fun r3 σ4 h1 hf => ?_)
    have hs := fun q j hq => (f_X8_isMark h1 q j (by unfold T_X8_isMark; exact id)).trans (hs q j hq)
    refine f_ite hf (fun hf => ?_) (fun hf => ?_)
    · refine f_mob hf (fun r5 σ6 h1 hf => ?_)
      have hs := fun q j hq => (f_X8_isMark h1 q j (by unfold T_X8_isMark; exact id)).trans (hs q j hq)
      refine f_ite hf (fun hf => ?_) (fun hf => ?_)
      · exact fun q j hq => (f_X1_productSign_b47 hf q j hq).trans (hs q j hq)
      · exact fun q j hq => (f_X1_productSign_b47 hf q j hq).trans (hs q j hq)
    · cases hf
      exact hs
  · cases hf
    exact hs
def T_X1_knownOf  (q j : Nat) : Prop := False
theorem f_X1_knownOf_b29 {F : Nat}  {r : Int} {σ' : mMem}   {t0 : Int} {σ : mMem} (hf : g_X1_knownOf_b29 F t0 σ = some (r, σ')) : ∀ q j, ¬ T_X1_knownOf  q j → σ' q j = σ q j := by
  unfold g_X1_knownOf_b29 at hf
  have hs : ∀ q j, ¬ T_X1_knownOf  q j → σ q j = σ q j := fun _ _ _ => rfl
  cases hf
  exact hs
theorem f_X1_knownOf_b28 {F : Nat}  {r : Int} {σ' : mMem}   {σ : mMem} (hf : g_X1_knownOf_b28 F  σ = some (r, σ')) : ∀ q j, ¬ T_X1_knownOf  q j → σ' q j = σ q j := by
  unfold g_X1_knownOf_b28 at hf
  have hs : ∀ q j, ¬ T_X1_knownOf  q j → σ q j = σ q j := fun _ _ _ => rfl
  exact fun q j hq => (f_X1_knownOf_b29 hf q j hq).trans (hs q j hq)
theorem f_X1_knownOf {F : Nat}  {r : Int} {σ' : mMem} {x0 : Int} {σ : mMem} (hf : g_X1_knownOf F x0 σ = some (r, σ')) : ∀ q j, ¬ T_X1_knownOf  q j → σ' q j = σ q j := by
  unfold g_X1_knownOf at hf
  have hs : ∀ q j, ¬ T_X1_knownOf  q j → σ q j = σ q j := fun _ _ _ => rfl
  refine f_ite hf (fun hf => ?_) (fun hf => ?_)
  · refine f_ite hf (fun hf => ?_) (fun hf => ?_)
    · exact fun q j hq => (f_X1_knownOf_b28 hf q j hq).trans (hs q j hq)
    · refine f_ite hf (fun hf => ?_) (fun hf => ?_)
      · exact fun q j hq => (f_X1_knownOf_b28 hf q j hq).trans (hs q j hq)
      · exact fun q j hq => (f_X1_knownOf_b29 hf q j hq).trans (hs q j hq)
  · cases hf
    exact hs
def T_X1_known  (q j : Nat) : Prop := (q = 3 ∧ (j = 4)) ∨ q = 7 ∨ (q = 8 ∧ (j = 4)) ∨ q = 12 ∨ (q = 14 ∧ (j = 6 ∨ j = 7 ∨ j = 8 ∨ j = 9 ∨ j = 10 ∨ j = 11))
theorem f_X1_known_b59 {F : Nat}  {r : Int} {σ' : mMem}   {σ : mMem} (hf : g_X1_known_b59 F  σ = some (r, σ')) : ∀ q j, ¬ T_X1_known  q j → σ' q j = σ q j := by
  unfold g_X1_known_b59 at hf
  have hs : ∀ q j, ¬ T_X1_known  q j → σ q j = σ q j := fun _ _ _ => rfl
  refine f_mob hf (fun r403 σ404 h1 hf => ?_)
  have hs := fun q j hq => (f_X8_refuseHere h1 q j (by unfold T_X1_known at hq; unfold T_X8_refuseHere; omega)).trans (hs q j hq)
  cases hf
  exact hs
theorem f_X1_known_b68 {F : Nat}  {r : Int} {σ' : mMem}   {x1 : Int} {σ : mMem} (hf : g_X1_known_b68 F x1 σ = some (r, σ')) : ∀ q j, ¬ T_X1_known  q j → σ' q j = σ q j := by
  unfold g_X1_known_b68 at hf
  have hs : ∀ q j, ¬ T_X1_known  q j → σ q j = σ q j := fun _ _ _ => rfl
  refine f_gp hf (fun hg505 hf => ?_)
  refine f_mob hf (fun r506 σ507 h1 hf => ?_)
  have hs := fun q j hq => (f_X5_emit h1 q j (by unfold T_X1_known at hq; unfold T_X5_emit; rcases hg505 with hz | hz <;> rw [hz] <;> omega)).trans (hs q j hq)
  refine f_mob hf (fun r508 σ509 h1 hf => ?_)
  have hs := fun q j hq => (f_X8_next h1 q j (by unfold T_X1_known at hq; unfold T_X8_next; omega)).trans (hs q j hq)
  cases hf
  exact hs
theorem f_X1_known_b42 {F : Nat}  {r : Int} {σ' : mMem}   {x1 t0 : Int} {σ : mMem} (hf : g_X1_known_b42 F x1 t0 σ = some (r, σ')) : ∀ q j, ¬ T_X1_known  q j → σ' q j = σ q j := by
  unfold g_X1_known_b42 at hf
  have hs : ∀ q j, ¬ T_X1_known  q j → σ q j = σ q j := fun _ _ _ => rfl
  refine f_ite hf (fun hf => ?_) (fun hf => ?_)
  · exact fun q j hq => (f_X1_known_b59 hf q j hq).trans (hs q j hq)
  · refine f_ite hf (fun hf => ?_) (fun hf => ?_)
    · exact fun q j hq => (f_X1_known_b68 hf q j hq).trans (hs q j hq)
    · refine f_ite hf (fun hf => ?_) (fun hf => ?_)
      · exact fun q j hq => (f_X1_known_b68 hf q j hq).trans (hs q j hq)
      · exact fun q j hq => (f_X1_known_b59 hf q j hq).trans (hs q j hq)
theorem f_X1_known_b37 {F : Nat}  {r : Int} {σ' : mMem}   {x1 : Int} {σ : mMem} (hf : g_X1_known_b37 F x1 σ = some (r, σ')) : ∀ q j, ¬ T_X1_known  q j → σ' q j = σ q j := by
  unfold g_X1_known_b37 at hf
  have hs : ∀ q j, ¬ T_X1_known  q j → σ q j = σ q j := fun _ _ _ => rfl
  exact fun q j hq => (f_X1_known_b42 hf q j hq).trans (hs q j hq)
theorem f_X1_known_b25 {F : Nat}  {r : Int} {σ' : mMem}   {t0 : Int} {σ : mMem} (hf : g_X1_known_b25 F t0 σ = some (r, σ')) : ∀ q j, ¬ T_X1_known  q j → σ' q j = σ q j := by
  unfold g_X1_known_b25 at hf
  have hs : ∀ q j, ¬ T_X1_known  q j → σ q j = σ q j := fun _ _ _ => rfl
  refine f_ite hf (fun hf => ?_) (fun hf => ?_)
  · exact fun q j hq => (f_X1_known_b37 hf q j hq).trans (hs q j hq)
  · refine f_ite hf (fun hf => ?_) (fun hf => ?_)
    · exact fun q j hq => (f_X1_known_b42 hf q j hq).trans (hs q j hq)
    · exact fun q j hq => (f_X1_known_b37 hf q j hq).trans (hs q j hq)
theorem f_X1_known {F : Nat}  {r : Int} {σ' : mMem} {σ : mMem} (hf : g_X1_known F σ = some (r, σ')) : ∀ q j, ¬ T_X1_known  q j → σ' q j = σ q j := by
  unfold g_X1_known at hf
  have hs : ∀ q j, ¬ T_X1_known  q j → σ q j = σ q j := fun _ _ _ => rfl
  refine f_ite hf (fun hf => ?_) (fun hf => ?_)
  · exact fun q j hq => (f_X1_known_b25 hf q j hq).trans (hs q j hq)
  · refine f_mob hf (fun r1 σ2 h1 hf => ?_)
    have hs := fun q j hq => (f_X1_knownOf h1 q j (by unfold T_X1_knownOf; exact id)).trans (hs q j hq)
    exact fun q j hq => (f_X1_known_b25 hf q j hq).trans (hs q j hq)
def T_X1_rec (q j : Nat) : Prop := (q = 3 ∧ (j = 4)) ∨ q = 7 ∨ (q = 8 ∧ (j = 4)) ∨ q = 12 ∨ (q = 14 ∧ (j = 6 ∨ j = 7 ∨ j = 8 ∨ j = 9 ∨ j = 10 ∨ j = 11))
theorem f_X1_test_b54 {F : Nat}  {rc : Nat → Int → Int → mMem → mRs} (hrec : ∀ (t : Nat) (a b : Int) (σ : mMem) (r : Int) (σ' : mMem), rc t a b σ = some (r, σ') → ∀ q j, ¬ T_X1_rec q j → σ' q j = σ q j) {r : Int} {σ' : mMem}   {σ : mMem} (hf : g_X1_test_b54 rc F  σ = some (r, σ')) : ∀ q j, ¬ T_X1_rec q j → σ' q j = σ q j := by
  unfold g_X1_test_b54 at hf
  have hs : ∀ q j, ¬ T_X1_rec q j → σ q j = σ q j := fun _ _ _ => rfl
  cases hf
  exact hs
theorem f_X1_test_h7 {F : Nat}  {rc : Nat → Int → Int → mMem → mRs} (hrec : ∀ (t : Nat) (a b : Int) (σ : mMem) (r : Int) (σ' : mMem), rc t a b σ = some (r, σ') → ∀ q j, ¬ T_X1_rec q j → σ' q j = σ q j) {r : Int} {σ' : mMem}   (n : Nat) : ∀ {x1 x2 : Int} {σ : mMem} (_ : g_X1_test_h7 rc F n x1 x2 σ = some (r, σ')), ∀ q j, ¬ T_X1_rec q j → σ' q j = σ q j := by
  induction n with
  | zero =>
    intro x1 x2 σ hf
    unfold g_X1_test_h7 at hf
    cases hf
  | succ n ih =>
    have hk7 : ∀ (x1 x2 : Int) (σ : mMem), g_X1_test_h7 rc F n x1 x2 σ = some (r, σ') → ∀ q j, ¬ T_X1_rec q j → σ' q j = σ q j := fun x1 x2 σ hf => ih hf
    intro x1 x2 σ hf
    unfold g_X1_test_h7 at hf
    have hs : ∀ q j, ¬ T_X1_rec q j → σ q j = σ q j := fun _ _ _ => rfl
    refine f_ite hf (fun hf => ?_) (fun hf => ?_)
    · exact fun q j hq => (f_X1_test_b54 hrec hf q j hq).trans (hs q j hq)
    · refine f_mob hf (fun r103 σ104 h1 hf => ?_)
      have hs := fun q j hq => (f_X8_isWord h1 q j (by unfold T_X8_isWord; exact id)).trans (hs q j hq)
      refine f_ite hf (fun hf => ?_) (fun hf => ?_)
      · exact fun q j hq => (f_X1_test_b54 hrec hf q j hq).trans (hs q j hq)
      · refine f_mob hf (fun r105 σ106 h1 hf => ?_)
        have hs := fun q j hq => (f_X8_next h1 q j (by unfold T_X1_rec at hq; unfold T_X8_next; omega)).trans (hs q j hq)
        refine f_mob hf (fun r107 σ108 h1 hf => ?_)
        have hs := fun q j hq => (hrec _ _ _ _ _ _ h1 q j hq).trans (hs q j hq)
        refine f_gp hf (fun hg109 hf => ?_)
        refine f_mob hf (fun r110 σ111 h1 hf => ?_)
        have hs := fun q j hq => (f_X5_emit h1 q j (by unfold T_X1_rec at hq; unfold T_X5_emit; rcases hg109 with hz | hz <;> rw [hz] <;> omega)).trans (hs q j hq)
        exact fun q j hq => (hk7 _ _ _ hf q j hq).trans (hs q j hq)
theorem f_X1_test {F : Nat}  {rc : Nat → Int → Int → mMem → mRs} (hrec : ∀ (t : Nat) (a b : Int) (σ : mMem) (r : Int) (σ' : mMem), rc t a b σ = some (r, σ') → ∀ q j, ¬ T_X1_rec q j → σ' q j = σ q j) {r : Int} {σ' : mMem} {x1 : Int} {σ : mMem} (hf : g_X1_test rc F x1 σ = some (r, σ')) : ∀ q j, ¬ T_X1_rec q j → σ' q j = σ q j := by
  unfold g_X1_test at hf
  have hs : ∀ q j, ¬ T_X1_rec q j → σ q j = σ q j := fun _ _ _ => rfl
  refine f_mob hf (fun r1 σ2 h1 hf => ?_)
  have hs := fun q j hq => (hrec _ _ _ _ _ _ h1 q j hq).trans (hs q j hq)
  exact fun q j hq => (f_X1_test_h7 hrec _ hf q j hq).trans (hs q j hq)
theorem f_X1_both_b54 {F : Nat}  {rc : Nat → Int → Int → mMem → mRs} (hrec : ∀ (t : Nat) (a b : Int) (σ : mMem) (r : Int) (σ' : mMem), rc t a b σ = some (r, σ') → ∀ q j, ¬ T_X1_rec q j → σ' q j = σ q j) {r : Int} {σ' : mMem}   {σ : mMem} (hf : g_X1_both_b54 rc F  σ = some (r, σ')) : ∀ q j, ¬ T_X1_rec q j → σ' q j = σ q j := by
  unfold g_X1_both_b54 at hf
  have hs : ∀ q j, ¬ T_X1_rec q j → σ q j = σ q j := fun _ _ _ => rfl
  cases hf
  exact hs
theorem f_X1_both_h7 {F : Nat}  {rc : Nat → Int → Int → mMem → mRs} (hrec : ∀ (t : Nat) (a b : Int) (σ : mMem) (r : Int) (σ' : mMem), rc t a b σ = some (r, σ') → ∀ q j, ¬ T_X1_rec q j → σ' q j = σ q j) {r : Int} {σ' : mMem}   (n : Nat) : ∀ {x1 x2 : Int} {σ : mMem} (_ : g_X1_both_h7 rc F n x1 x2 σ = some (r, σ')), ∀ q j, ¬ T_X1_rec q j → σ' q j = σ q j := by
  induction n with
  | zero =>
    intro x1 x2 σ hf
    unfold g_X1_both_h7 at hf
    cases hf
  | succ n ih =>
    have hk7 : ∀ (x1 x2 : Int) (σ : mMem), g_X1_both_h7 rc F n x1 x2 σ = some (r, σ') → ∀ q j, ¬ T_X1_rec q j → σ' q j = σ q j := fun x1 x2 σ hf => ih hf
    intro x1 x2 σ hf
    unfold g_X1_both_h7 at hf
    have hs : ∀ q j, ¬ T_X1_rec q j → σ q j = σ q j := fun _ _ _ => rfl
    refine f_ite hf (fun hf => ?_) (fun hf => ?_)
    · exact fun q j hq => (f_X1_both_b54 hrec hf q j hq).trans (hs q j hq)
    · refine f_mob hf (fun r103 σ104 h1 hf => ?_)
      have hs := fun q j hq => (f_X8_isWord h1 q j (by unfold T_X8_isWord; exact id)).trans (hs q j hq)
      refine f_ite hf (fun hf => ?_) (fun hf => ?_)
      · exact fun q j hq => (f_X1_both_b54 hrec hf q j hq).trans (hs q j hq)
      · refine f_mob hf (fun r105 σ106 h1 hf => ?_)
        have hs := fun q j hq => (f_X8_next h1 q j (by unfold T_X1_rec at hq; unfold T_X8_next; omega)).trans (hs q j hq)
        refine f_mob hf (fun r107 σ108 h1 hf => ?_)
        have hs := fun q j hq => (hrec _ _ _ _ _ _ h1 q j hq).trans (hs q j hq)
        refine f_gp hf (fun hg109 hf => ?_)
        refine f_mob hf (fun r110 σ111 h1 hf => ?_)
        have hs := fun q j hq => (f_X5_emit h1 q j (by unfold T_X1_rec at hq; unfold T_X5_emit; rcases hg109 with hz | hz <;> rw [hz] <;> omega)).trans (hs q j hq)
        exact fun q j hq => (hk7 _ _ _ hf q j hq).trans (hs q j hq)
theorem f_X1_both {F : Nat}  {rc : Nat → Int → Int → mMem → mRs} (hrec : ∀ (t : Nat) (a b : Int) (σ : mMem) (r : Int) (σ' : mMem), rc t a b σ = some (r, σ') → ∀ q j, ¬ T_X1_rec q j → σ' q j = σ q j) {r : Int} {σ' : mMem} {x1 : Int} {σ : mMem} (hf : g_X1_both rc F x1 σ = some (r, σ')) : ∀ q j, ¬ T_X1_rec q j → σ' q j = σ q j := by
  unfold g_X1_both at hf
  have hs : ∀ q j, ¬ T_X1_rec q j → σ q j = σ q j := fun _ _ _ => rfl
  refine f_mob hf (fun r1 σ2 h1 hf => ?_)
  have hs := fun q j hq => (hrec _ _ _ _ _ _ h1 q j hq).trans (hs q j hq)
  exact fun q j hq => (f_X1_both_h7 hrec _ hf q j hq).trans (hs q j hq)
theorem f_X1_fact_b114 {F : Nat}  {rc : Nat → Int → Int → mMem → mRs} (hrec : ∀ (t : Nat) (a b : Int) (σ : mMem) (r : Int) (σ' : mMem), rc t a b σ = some (r, σ') → ∀ q j, ¬ T_X1_rec q j → σ' q j = σ q j) {r : Int} {σ' : mMem}   {σ : mMem} (hf : g_X1_fact_b114 rc F  σ = some (r, σ')) : ∀ q j, ¬ T_X1_rec q j → σ' q j = σ q j := by
  unfold g_X1_fact_b114 at hf
  have hs : ∀ q j, ¬ T_X1_rec q j → σ q j = σ q j := fun _ _ _ => rfl
  cases hf
  exact hs
theorem f_X1_fact {F : Nat}  {rc : Nat → Int → Int → mMem → mRs} (hrec : ∀ (t : Nat) (a b : Int) (σ : mMem) (r : Int) (σ' : mMem), rc t a b σ = some (r, σ') → ∀ q j, ¬ T_X1_rec q j → σ' q j = σ q j) {r : Int} {σ' : mMem} {x1 : Int} {σ : mMem} (hf : g_X1_fact rc F x1 σ = some (r, σ')) : ∀ q j, ¬ T_X1_rec q j → σ' q j = σ q j := by
  unfold g_X1_fact at hf
  have hs : ∀ q j, ¬ T_X1_rec q j → σ q j = σ q j := fun _ _ _ => rfl
  refine f_mob hf (fun r1 σ2 h1 hf => ?_)
  have hs := fun q j hq => (f_X8_isWord h1 q j (by unfold T_X8_isWord; exact id)).trans (hs q j hq)
  refine f_ite hf (fun hf => ?_) (fun hf => ?_)
  · refine f_mob hf (fun r3 σ4 h1 hf => ?_)
    have hs := fun q j hq => (f_X8_isMark h1 q j (by unfold T_X8_isMark; exact id)).trans (hs q j hq)
    refine f_ite hf (fun hf => ?_) (fun hf => ?_)
    · refine f_mob hf (fun r5 σ6 h1 hf => ?_)
      have hs := fun q j hq => (f_X8_isWord h1 q j (by unfold T_X8_isWord; exact id)).trans (hs q j hq)
      refine f_ite hf (fun hf => ?_) (fun hf => ?_)
      · refine f_mob hf (fun r7 σ8 h1 hf => ?_)
        have hs := fun q j hq => (hrec _ _ _ _ _ _ h1 q j hq).trans (hs q j hq)
        exact fun q j hq => (f_X1_fact_b114 hrec hf q j hq).trans (hs q j hq)
      · refine f_mob hf (fun r9 σ10 h1 hf => ?_)
        have hs := fun q j hq => (f_X8_next h1 q j (by unfold T_X1_rec at hq; unfold T_X8_next; omega)).trans (hs q j hq)
        refine f_gp hf (fun hg11 hf => ?_)
        refine f_mob hf (fun r12 σ13 h1 hf => ?_)
        have hs := fun q j hq => (f_X5_emit h1 q j (by unfold T_X1_rec at hq; unfold T_X5_emit; rcases hg11 with hz | hz <;> rw [hz] <;> omega)).trans (hs q j hq)
        exact fun q j hq => (f_X1_fact_b114 hrec hf q j hq).trans (hs q j hq)
    · refine f_mob hf (fun r14 σ15 h1 hf => ?_)
      have hs := fun q j hq => (f_X1_passOpening h1 q j (by unfold T_X1_rec at hq; unfold T_X1_passOpening; omega)).trans (hs q j hq)
      refine f_ite hf (fun hf => ?_) (fun hf => ?_)
      · exact fun q j hq => (f_X1_fact_b114 hrec hf q j hq).trans (hs q j hq)
      · refine f_mob hf (fun r16 σ17 h1 hf => ?_)
        have hs := fun q j hq => (hrec _ _ _ _ _ _ h1 q j hq).trans (hs q j hq)
        refine f_mob hf (fun r18 σ19 h1 hf => ?_)
        have hs := fun q j hq => (f_X8_takeMark h1 q j (by unfold T_X1_rec at hq; unfold T_X8_takeMark; omega)).trans (hs q j hq)
        exact fun q j hq => (f_X1_fact_b114 hrec hf q j hq).trans (hs q j hq)
  · refine f_mob hf (fun r20 σ21 h1 hf => ?_)
    have hs := fun q j hq => (f_X1_passOpening h1 q j (by unfold T_X1_rec at hq; unfold T_X1_passOpening; omega)).trans (hs q j hq)
    refine f_ite hf (fun hf => ?_) (fun hf => ?_)
    · exact fun q j hq => (f_X1_fact_b114 hrec hf q j hq).trans (hs q j hq)
    · refine f_mob hf (fun r22 σ23 h1 hf => ?_)
      have hs := fun q j hq => (hrec _ _ _ _ _ _ h1 q j hq).trans (hs q j hq)
      refine f_gp hf (fun hg24 hf => ?_)
      refine f_mob hf (fun r25 σ26 h1 hf => ?_)
      have hs := fun q j hq => (f_X5_emit h1 q j (by unfold T_X1_rec at hq; unfold T_X5_emit; rcases hg24 with hz | hz <;> rw [hz] <;> omega)).trans (hs q j hq)
      exact fun q j hq => (f_X1_fact_b114 hrec hf q j hq).trans (hs q j hq)
theorem f_X1_comparison_b70 {F : Nat}  {rc : Nat → Int → Int → mMem → mRs} (hrec : ∀ (t : Nat) (a b : Int) (σ : mMem) (r : Int) (σ' : mMem), rc t a b σ = some (r, σ') → ∀ q j, ¬ T_X1_rec q j → σ' q j = σ q j) {r : Int} {σ' : mMem}   {x1 x2 : Int} {σ : mMem} (hf : g_X1_comparison_b70 rc F x1 x2 σ = some (r, σ')) : ∀ q j, ¬ T_X1_rec q j → σ' q j = σ q j := by
  unfold g_X1_comparison_b70 at hf
  have hs : ∀ q j, ¬ T_X1_rec q j → σ q j = σ q j := fun _ _ _ => rfl
  refine f_mob hf (fun r111 σ112 h1 hf => ?_)
  have hs := fun q j hq => (f_X8_next h1 q j (by unfold T_X1_rec at hq; unfold T_X8_next; omega)).trans (hs q j hq)
  refine f_mob hf (fun r113 σ114 h1 hf => ?_)
  have hs := fun q j hq => (hrec _ _ _ _ _ _ h1 q j hq).trans (hs q j hq)
  refine f_gp hf (fun hg115 hf => ?_)
  refine f_mob hf (fun r116 σ117 h1 hf => ?_)
  have hs := fun q j hq => (f_X5_emit h1 q j (by unfold T_X1_rec at hq; unfold T_X5_emit; rcases hg115 with hz | hz <;> rw [hz] <;> omega)).trans (hs q j hq)
  cases hf
  exact hs
theorem f_X1_comparison {F : Nat}  {rc : Nat → Int → Int → mMem → mRs} (hrec : ∀ (t : Nat) (a b : Int) (σ : mMem) (r : Int) (σ' : mMem), rc t a b σ = some (r, σ') → ∀ q j, ¬ T_X1_rec q j → σ' q j = σ q j) {r : Int} {σ' : mMem} {x1 : Int} {σ : mMem} (hf : g_X1_comparison rc F x1 σ = some (r, σ')) : ∀ q j, ¬ T_X1_rec q j → σ' q j = σ q j := by
  unfold g_X1_comparison at hf
  have hs : ∀ q j, ¬ T_X1_rec q j → σ q j = σ q j := fun _ _ _ => rfl
  refine f_mob hf (fun r1 σ2 h1 hf => ?_)
  have hs := fun q j hq => (hrec _ _ _ _ _ _ h1 q j hq).trans (hs q j hq)
  refine f_mob hf (fun r3 σ4 h1 hf => ?_)
  have hs := fun q j hq => (f_X8_isMark h1 q j (by unfold T_X8_isMark; exact id)).trans (hs q j hq)
  refine f_ite hf (fun hf => ?_) (fun hf => ?_)
  · refine f_mob hf (fun r5 σ6 h1 hf => ?_)
    have hs := fun q j hq => (f_X8_isMark h1 q j (by unfold T_X8_isMark; exact id)).trans (hs q j hq)
    refine f_ite hf (fun hf => ?_) (fun hf => ?_)
    · refine f_mob hf (fun r7 σ8 h1 hf => ?_)
      have hs := fun q j hq => (f_X8_isMark h1 q j (by unfold T_X8_isMark; exact id)).trans (hs q j hq)
      refine f_ite hf (fun hf => ?_) (fun hf => ?_)
      · refine f_mob hf (fun r9 σ10 h1 hf => ?_)
        have hs := fun q j hq => (f_X8_refuseHere h1 q j (by unfold T_X1_rec at hq; unfold T_X8_refuseHere; omega)).trans (hs q j hq)
        cases hf
        exact hs
      · exact fun q j hq => (f_X1_comparison_b70 hrec hf q j hq).trans (hs q j hq)
    · exact fun q j hq => (f_X1_comparison_b70 hrec hf q j hq).trans (hs q j hq)
  · exact fun q j hq => (f_X1_comparison_b70 hrec hf q j hq).trans (hs q j hq)
theorem f_X1_sum_b83 {F : Nat}  {rc : Nat → Int → Int → mMem → mRs} (hrec : ∀ (t : Nat) (a b : Int) (σ : mMem) (r : Int) (σ' : mMem), rc t a b σ = some (r, σ') → ∀ q j, ¬ T_X1_rec q j → σ' q j = σ q j) {r : Int} {σ' : mMem}   {σ : mMem} (hf : g_X1_sum_b83 rc F  σ = some (r, σ')) : ∀ q j, ¬ T_X1_rec q j → σ' q j = σ q j := by
  unfold g_X1_sum_b83 at hf
  have hs : ∀ q j, ¬ T_X1_rec q j → σ q j = σ q j := fun _ _ _ => rfl
  cases hf
  exact hs
theorem f_X1_sum_b55 {F : Nat}  {rc : Nat → Int → Int → mMem → mRs} (hrec : ∀ (t : Nat) (a b : Int) (σ : mMem) (r : Int) (σ' : mMem), rc t a b σ = some (r, σ') → ∀ q j, ¬ T_X1_rec q j → σ' q j = σ q j) {r : Int} {σ' : mMem} {k7 : Int → Int → mMem → mRs} (hk7 : ∀ (x1 x2 : Int) (σ : mMem), k7 x1 x2 σ = some (r, σ') → ∀ q j, ¬ T_X1_rec q j → σ' q j = σ q j) {x1 x2 t0 : Int} {σ : mMem} (hf : g_X1_sum_b55 rc F k7 x1 x2 t0 σ = some (r, σ')) : ∀ q j, ¬ T_X1_rec q j → σ' q j = σ q j := by
  unfold g_X1_sum_b55 at hf
  have hs : ∀ q j, ¬ T_X1_rec q j → σ q j = σ q j := fun _ _ _ => rfl
  refine f_mob hf (fun r409 σ410 h1 hf => ?_)
  have hs := fun q j hq => (f_X8_next h1 q j (by unfold T_X1_rec at hq; unfold T_X8_next; omega)).trans (hs q j hq)
  refine f_mob hf (fun r411 σ412 h1 hf => ?_)
  have hs := fun q j hq => (hrec _ _ _ _ _ _ h1 q j hq).trans (hs q j hq)
  refine f_gp hf (fun hg413 hf => ?_)
  refine f_mob hf (fun r414 σ415 h1 hf => ?_)
  have hs := fun q j hq => (f_X5_emit h1 q j (by unfold T_X1_rec at hq; unfold T_X5_emit; rcases hg413 with hz | hz <;> rw [hz] <;> omega)).trans (hs q j hq)
  exact fun q j hq => (hk7 _ _ _ hf q j hq).trans (hs q j hq)
theorem f_X1_sum_b38 {F : Nat}  {rc : Nat → Int → Int → mMem → mRs} (hrec : ∀ (t : Nat) (a b : Int) (σ : mMem) (r : Int) (σ' : mMem), rc t a b σ = some (r, σ') → ∀ q j, ¬ T_X1_rec q j → σ' q j = σ q j) {r : Int} {σ' : mMem} {k7 : Int → Int → mMem → mRs} (hk7 : ∀ (x1 x2 : Int) (σ : mMem), k7 x1 x2 σ = some (r, σ') → ∀ q j, ¬ T_X1_rec q j → σ' q j = σ q j) {x1 x2 : Int} {σ : mMem} (hf : g_X1_sum_b38 rc F k7 x1 x2 σ = some (r, σ')) : ∀ q j, ¬ T_X1_rec q j → σ' q j = σ q j := by
  unfold g_X1_sum_b38 at hf
  have hs : ∀ q j, ¬ T_X1_rec q j → σ q j = σ q j := fun _ _ _ => rfl
  refine f_mob hf (fun r307 σ308 h1 hf => ?_)
  have hs := fun q j hq => (f_X8_isMark h1 q j (by unfold T_X8_isMark; exact id)).trans (hs q j hq)
  refine f_ite hf (fun hf => ?_) (fun hf => ?_)
  · exact fun q j hq => (f_X1_sum_b55 hrec hk7 hf q j hq).trans (hs q j hq)
  · exact fun q j hq => (f_X1_sum_b55 hrec hk7 hf q j hq).trans (hs q j hq)
theorem f_X1_sum_h7 {F : Nat}  {rc : Nat → Int → Int → mMem → mRs} (hrec : ∀ (t : Nat) (a b : Int) (σ : mMem) (r : Int) (σ' : mMem), rc t a b σ = some (r, σ') → ∀ q j, ¬ T_X1_rec q j → σ' q j = σ q j) {r : Int} {σ' : mMem}   (n : Nat) : ∀ {x1 x2 : Int} {σ : mMem} (_ : g_X1_sum_h7 rc F n x1 x2 σ = some (r, σ')), ∀ q j, ¬ T_X1_rec q j → σ' q j = σ q j := by
  induction n with
  | zero =>
    intro x1 x2 σ hf
    unfold g_X1_sum_h7 at hf
    cases hf
  | succ n ih =>
    have hk7 : ∀ (x1 x2 : Int) (σ : mMem), g_X1_sum_h7 rc F n x1 x2 σ = some (r, σ') → ∀ q j, ¬ T_X1_rec q j → σ' q j = σ q j := fun x1 x2 σ hf => ih hf
    intro x1 x2 σ hf
    unfold g_X1_sum_h7 at hf
    have hs : ∀ q j, ¬ T_X1_rec q j → σ q j = σ q j := fun _ _ _ => rfl
    refine f_ite hf (fun hf => ?_) (fun hf => ?_)
    · exact fun q j hq => (f_X1_sum_b83 hrec hf q j hq).trans (hs q j hq)
    · refine f_mob hf (fun r103 σ104 h1 hf => ?_)
      have hs := fun q j hq => (f_X8_isMark h1 q j (by unfold T_X8_isMark; exact id)).trans (hs q j hq)
      refine f_ite hf (fun hf => ?_) (fun hf => ?_)
      · exact fun q j hq => (f_X1_sum_b38 hrec hk7 hf q j hq).trans (hs q j hq)
      · refine f_mob hf (fun r105 σ106 h1 hf => ?_)
        have hs := fun q j hq => (f_X8_isMark h1 q j (by unfold T_X8_isMark; exact id)).trans (hs q j hq)
        refine f_ite hf (fun hf => ?_) (fun hf => ?_)
        · exact fun q j hq => (f_X1_sum_b83 hrec hf q j hq).trans (hs q j hq)
        · exact fun q j hq => (f_X1_sum_b38 hrec hk7 hf q j hq).trans (hs q j hq)
theorem f_X1_sum {F : Nat}  {rc : Nat → Int → Int → mMem → mRs} (hrec : ∀ (t : Nat) (a b : Int) (σ : mMem) (r : Int) (σ' : mMem), rc t a b σ = some (r, σ') → ∀ q j, ¬ T_X1_rec q j → σ' q j = σ q j) {r : Int} {σ' : mMem} {x1 : Int} {σ : mMem} (hf : g_X1_sum rc F x1 σ = some (r, σ')) : ∀ q j, ¬ T_X1_rec q j → σ' q j = σ q j := by
  unfold g_X1_sum at hf
  have hs : ∀ q j, ¬ T_X1_rec q j → σ q j = σ q j := fun _ _ _ => rfl
  refine f_mob hf (fun r1 σ2 h1 hf => ?_)
  have hs := fun q j hq => (hrec _ _ _ _ _ _ h1 q j hq).trans (hs q j hq)
  exact fun q j hq => (f_X1_sum_h7 hrec _ hf q j hq).trans (hs q j hq)
theorem f_X1_product_b56 {F : Nat}  {rc : Nat → Int → Int → mMem → mRs} (hrec : ∀ (t : Nat) (a b : Int) (σ : mMem) (r : Int) (σ' : mMem), rc t a b σ = some (r, σ') → ∀ q j, ¬ T_X1_rec q j → σ' q j = σ q j) {r : Int} {σ' : mMem}   {σ : mMem} (hf : g_X1_product_b56 rc F  σ = some (r, σ')) : ∀ q j, ¬ T_X1_rec q j → σ' q j = σ q j := by
  unfold g_X1_product_b56 at hf
  have hs : ∀ q j, ¬ T_X1_rec q j → σ q j = σ q j := fun _ _ _ => rfl
  cases hf
  exact hs
theorem f_X1_product_h12 {F : Nat}  {rc : Nat → Int → Int → mMem → mRs} (hrec : ∀ (t : Nat) (a b : Int) (σ : mMem) (r : Int) (σ' : mMem), rc t a b σ = some (r, σ') → ∀ q j, ¬ T_X1_rec q j → σ' q j = σ q j) {r : Int} {σ' : mMem}   (n : Nat) : ∀ {x1 x2 x3 : Int} {σ : mMem} (_ : g_X1_product_h12 rc F n x1 x2 x3 σ = some (r, σ')), ∀ q j, ¬ T_X1_rec q j → σ' q j = σ q j := by
  induction n with
  | zero =>
    intro x1 x2 x3 σ hf
    unfold g_X1_product_h12 at hf
    cases hf
  | succ n ih =>
    have hk12 : ∀ (x1 x2 x3 : Int) (σ : mMem), g_X1_product_h12 rc F n x1 x2 x3 σ = some (r, σ') → ∀ q j, ¬ T_X1_rec q j → σ' q j = σ q j := fun x1 x2 x3 σ hf => ih hf
    intro x1 x2 x3 σ hf
    unfold g_X1_product_h12 at hf
    have hs : ∀ q j, ¬ T_X1_rec q j → σ q j = σ q j := fun _ _ _ => rfl
    refine f_ite hf (fun hf => ?_) (fun hf => ?_)
    · exact fun q j hq => (f_X1_product_b56 hrec hf q j hq).trans (hs q j hq)
    · refine f_ite hf (fun hf => ?_) (fun hf => ?_)
      · exact fun q j hq => (f_X1_product_b56 hrec hf q j hq).trans (hs q j hq)
      · refine f_mob hf (fun r105 σ106 h1 hf => ?_)
        have hs := fun q j hq => (f_X8_next h1 q j (by unfold T_X1_rec at hq; unfold T_X8_next; omega)).trans (hs q j hq)
        refine f_mob hf (fun r107 σ108 h1 hf => ?_)
        have hs := fun q j hq => (hrec _ _ _ _ _ _ h1 q j hq).trans (hs q j hq)
        refine f_gp hf (fun hg109 hf => ?_)
        refine f_mob hf (fun r110 σ111 h1 hf => ?_)
        have hs := fun q j hq => (f_X5_emit h1 q j (by unfold T_X1_rec at hq; unfold T_X5_emit; rcases hg109 with hz | hz <;> rw [hz] <;> omega)).trans (hs q j hq)
        refine f_mob hf (fun r112 σ113 h1 hf => ?_)
        have hs := fun q j hq => (f_X1_productSign h1 q j (by unfold T_X1_productSign; exact id)).trans (hs q j hq)
        exact fun q j hq => (hk12 _ _ _ _ hf q j hq).trans (hs q j hq)
theorem f_X1_product {F : Nat}  {rc : Nat → Int → Int → mMem → mRs} (hrec : ∀ (t : Nat) (a b : Int) (σ : mMem) (r : Int) (σ' : mMem), rc t a b σ = some (r, σ') → ∀ q j, ¬ T_X1_rec q j → σ' q j = σ q j) {r : Int} {σ' : mMem} {x1 : Int} {σ : mMem} (hf : g_X1_product rc F x1 σ = some (r, σ')) : ∀ q j, ¬ T_X1_rec q j → σ' q j = σ q j := by
  unfold g_X1_product at hf
  have hs : ∀ q j, ¬ T_X1_rec q j → σ q j = σ q j := fun _ _ _ => rfl
  refine f_mob hf (fun r1 σ2 h1 hf => ?_)
  have hs := fun q j hq => (hrec _ _ _ _ _ _ h1 q j hq).trans (hs q j hq)
  refine f_mob hf (fun r3 σ4 h1 hf => ?_)
  have hs := fun q j hq => (f_X1_productSign h1 q j (by unfold T_X1_productSign; exact id)).trans (hs q j hq)
  exact fun q j hq => (f_X1_product_h12 hrec _ hf q j hq).trans (hs q j hq)
theorem f_X1_part_b145 {F : Nat}  {rc : Nat → Int → Int → mMem → mRs} (hrec : ∀ (t : Nat) (a b : Int) (σ : mMem) (r : Int) (σ' : mMem), rc t a b σ = some (r, σ') → ∀ q j, ¬ T_X1_rec q j → σ' q j = σ q j) {r : Int} {σ' : mMem}   {σ : mMem} (hf : g_X1_part_b145 rc F  σ = some (r, σ')) : ∀ q j, ¬ T_X1_rec q j → σ' q j = σ q j := by
  unfold g_X1_part_b145 at hf
  have hs : ∀ q j, ¬ T_X1_rec q j → σ q j = σ q j := fun _ _ _ => rfl
  cases hf
  exact hs
theorem f_X1_part {F : Nat}  {rc : Nat → Int → Int → mMem → mRs} (hrec : ∀ (t : Nat) (a b : Int) (σ : mMem) (r : Int) (σ' : mMem), rc t a b σ = some (r, σ') → ∀ q j, ¬ T_X1_rec q j → σ' q j = σ q j) {r : Int} {σ' : mMem} {x1 : Int} {σ : mMem} (hf : g_X1_part rc F x1 σ = some (r, σ')) : ∀ q j, ¬ T_X1_rec q j → σ' q j = σ q j := by
  unfold g_X1_part at hf
  have hs : ∀ q j, ¬ T_X1_rec q j → σ q j = σ q j := fun _ _ _ => rfl
  refine f_ite hf (fun hf => ?_) (fun hf => ?_)
  · refine f_mob hf (fun r1 σ2 h1 hf => ?_)
    have hs := fun q j hq => (f_X8_isMark h1 q j (by unfold T_X8_isMark; exact id)).trans (hs q j hq)
    refine f_ite hf (fun hf => ?_) (fun hf => ?_)
    · refine f_mob hf (fun r3 σ4 h1 hf => ?_)
      have hs := fun q j hq => (f_X8_isWord h1 q j (by unfold T_X8_isWord; exact id)).trans (hs q j hq)
      refine f_ite hf (fun hf => ?_) (fun hf => ?_)
      · refine f_mob hf (fun r5 σ6 h1 hf => ?_)
        have hs := fun q j hq => (f_X8_isWord h1 q j (by unfold T_X8_isWord; exact id)).trans (hs q j hq)
        refine f_ite hf (fun hf => ?_) (fun hf => ?_)
        · refine f_mob hf (fun r7 σ8 h1 hf => ?_)
          have hs := fun q j hq => (f_X8_isWord h1 q j (by unfold T_X8_isWord; exact id)).trans (hs q j hq)
          refine f_ite hf (fun hf => ?_) (fun hf => ?_)
          · refine f_mob hf (fun r9 σ10 h1 hf => ?_)
            have hs := fun q j hq => (f_X1_known h1 q j (by unfold T_X1_rec at hq; unfold T_X1_known; omega)).trans (hs q j hq)
            exact fun q j hq => (f_X1_part_b145 hrec hf q j hq).trans (hs q j hq)
          · refine f_mob hf (fun r11 σ12 h1 hf => ?_)
            have hs := fun q j hq => (hrec _ _ _ _ _ _ h1 q j hq).trans (hs q j hq)
            exact fun q j hq => (f_X1_part_b145 hrec hf q j hq).trans (hs q j hq)
        · refine f_mob hf (fun r13 σ14 h1 hf => ?_)
          have hs := fun q j hq => (hrec _ _ _ _ _ _ h1 q j hq).trans (hs q j hq)
          exact fun q j hq => (f_X1_part_b145 hrec hf q j hq).trans (hs q j hq)
      · refine f_mob hf (fun r15 σ16 h1 hf => ?_)
        have hs := fun q j hq => (hrec _ _ _ _ _ _ h1 q j hq).trans (hs q j hq)
        exact fun q j hq => (f_X1_part_b145 hrec hf q j hq).trans (hs q j hq)
    · refine f_mob hf (fun r17 σ18 h1 hf => ?_)
      have hs := fun q j hq => (f_X1_passOpening h1 q j (by unfold T_X1_rec at hq; unfold T_X1_passOpening; omega)).trans (hs q j hq)
      refine f_ite hf (fun hf => ?_) (fun hf => ?_)
      · exact fun q j hq => (f_X1_part_b145 hrec hf q j hq).trans (hs q j hq)
      · refine f_mob hf (fun r19 σ20 h1 hf => ?_)
        have hs := fun q j hq => (hrec _ _ _ _ _ _ h1 q j hq).trans (hs q j hq)
        refine f_mob hf (fun r21 σ22 h1 hf => ?_)
        have hs := fun q j hq => (f_X8_takeMark h1 q j (by unfold T_X1_rec at hq; unfold T_X8_takeMark; omega)).trans (hs q j hq)
        exact fun q j hq => (f_X1_part_b145 hrec hf q j hq).trans (hs q j hq)
  · refine f_gp hf (fun hg23 hf => ?_)
    refine f_mob hf (fun r24 σ25 h1 hf => ?_)
    have hs := fun q j hq => (f_X5_emit h1 q j (by unfold T_X1_rec at hq; unfold T_X5_emit; rcases hg23 with hz | hz <;> rw [hz] <;> omega)).trans (hs q j hq)
    refine f_mob hf (fun r26 σ27 h1 hf => ?_)
    have hs := fun q j hq => (f_X8_next h1 q j (by unfold T_X1_rec at hq; unfold T_X8_next; omega)).trans (hs q j hq)
    exact fun q j hq => (f_X1_part_b145 hrec hf q j hq).trans (hs q j hq)
theorem f_X1_choice_b59 {F : Nat}  {rc : Nat → Int → Int → mMem → mRs} (hrec : ∀ (t : Nat) (a b : Int) (σ : mMem) (r : Int) (σ' : mMem), rc t a b σ = some (r, σ') → ∀ q j, ¬ T_X1_rec q j → σ' q j = σ q j) {r : Int} {σ' : mMem}   {x1 x2 : Int} {σ : mMem} (hf : g_X1_choice_b59 rc F x1 x2 σ = some (r, σ')) : ∀ q j, ¬ T_X1_rec q j → σ' q j = σ q j := by
  unfold g_X1_choice_b59 at hf
  have hs : ∀ q j, ¬ T_X1_rec q j → σ q j = σ q j := fun _ _ _ => rfl
  refine f_mob hf (fun r113 σ114 h1 hf => ?_)
  have hs := fun q j hq => (hrec _ _ _ _ _ _ h1 q j hq).trans (hs q j hq)
  refine f_mob hf (fun r115 σ116 h1 hf => ?_)
  have hs := fun q j hq => (f_X8_takeMark h1 q j (by unfold T_X1_rec at hq; unfold T_X8_takeMark; omega)).trans (hs q j hq)
  refine f_mob hf (fun r117 σ118 h1 hf => ?_)
  have hs := fun q j hq => (hrec _ _ _ _ _ _ h1 q j hq).trans (hs q j hq)
  refine f_mob hf (fun r119 σ120 h1 hf => ?_)
  have hs := fun q j hq => (f_X8_takeMark h1 q j (by unfold T_X1_rec at hq; unfold T_X8_takeMark; omega)).trans (hs q j hq)
  refine f_gp hf (fun hg121 hf => ?_)
  refine f_mob hf (fun r122 σ123 h1 hf => ?_)
  have hs := fun q j hq => (f_X5_emit h1 q j (by unfold T_X1_rec at hq; unfold T_X5_emit; rcases hg121 with hz | hz <;> rw [hz] <;> omega)).trans (hs q j hq)
  cases hf
  exact hs
theorem f_X1_choice {F : Nat}  {rc : Nat → Int → Int → mMem → mRs} (hrec : ∀ (t : Nat) (a b : Int) (σ : mMem) (r : Int) (σ' : mMem), rc t a b σ = some (r, σ') → ∀ q j, ¬ T_X1_rec q j → σ' q j = σ q j) {r : Int} {σ' : mMem} {x1 x2 : Int} {σ : mMem} (hf : g_X1_choice rc F x1 x2 σ = some (r, σ')) : ∀ q j, ¬ T_X1_rec q j → σ' q j = σ q j := by
  unfold g_X1_choice at hf
  have hs : ∀ q j, ¬ T_X1_rec q j → σ q j = σ q j := fun _ _ _ => rfl
  refine f_mob hf (fun r1 σ2 h1 hf => ?_)
  have hs := fun q j hq => (f_X8_next h1 q j (by unfold T_X1_rec at hq; unfold T_X8_next; omega)).trans (hs q j hq)
  refine f_mob hf (fun r3 σ4 h1 hf => ?_)
  have hs := fun q j hq => (f_X8_isMark h1 q j (by unfold T_X8_isMark; exact id)).trans (hs q j hq)
  refine f_ite hf (fun hf => ?_) (fun hf => ?_)
  · refine f_mob hf (fun r5 σ6 h1 hf => ?_)
    have hs := fun q j hq => (f_X1_passOpening h1 q j (by unfold T_X1_rec at hq; unfold T_X1_passOpening; omega)).trans (hs q j hq)
    refine f_ite hf (fun hf => ?_) (fun hf => ?_)
    · refine f_ite hf (fun hf => ?_) (fun hf => ?_)
      · exact fun q j hq => (f_X1_choice_b59 hrec hf q j hq).trans (hs q j hq)
      · refine f_mob hf (fun r7 σ8 h1 hf => ?_)
        have hs := fun q j hq => (hrec _ _ _ _ _ _ h1 q j hq).trans (hs q j hq)
        refine f_mob hf (fun r9 σ10 h1 hf => ?_)
        have hs := fun q j hq => (f_X8_takeMark h1 q j (by unfold T_X1_rec at hq; unfold T_X8_takeMark; omega)).trans (hs q j hq)
        exact fun q j hq => (f_X1_choice_b59 hrec hf q j hq).trans (hs q j hq)
    · cases hf
      exact hs
  · refine f_mob hf (fun r11 σ12 h1 hf => ?_)
    have hs := fun q j hq => (f_X8_refuseHere h1 q j (by unfold T_X1_rec at hq; unfold T_X8_refuseHere; omega)).trans (hs q j hq)
    cases hf
    exact hs
theorem f_X1_rec {F : Nat} : ∀ (d t : Nat) (a b : Int) (σ : mMem) (r : Int) (σ' : mMem), g_X1_rec F d t a b σ = some (r, σ') → ∀ q j, ¬ T_X1_rec q j → σ' q j = σ q j
  | 0, _, _, _, _, _, _, h => by cases h
  | d + 1, t, a, b, σ, r, σ', h => by
    unfold g_X1_rec at h
    refine f_ite h (fun h => f_X1_test (f_X1_rec d) h) (fun h => ?_)
    refine f_ite h (fun h => f_X1_both (f_X1_rec d) h) (fun h => ?_)
    refine f_ite h (fun h => f_X1_fact (f_X1_rec d) h) (fun h => ?_)
    refine f_ite h (fun h => f_X1_comparison (f_X1_rec d) h) (fun h => ?_)
    refine f_ite h (fun h => f_X1_sum (f_X1_rec d) h) (fun h => ?_)
    refine f_ite h (fun h => f_X1_product (f_X1_rec d) h) (fun h => ?_)
    refine f_ite h (fun h => f_X1_part (f_X1_rec d) h) (fun h => ?_)
    refine f_ite h (fun h => f_X1_choice (f_X1_rec d) h) (fun h => ?_)
    cases h
def T_X1_readSteers (p1 : Nat) (q j : Nat) : Prop := (q = 3 ∧ (j = 4 ∨ j = 5 ∨ j = 6)) ∨ q = 7 ∨ (q = 8 ∧ (j = 4 ∨ j = 5 ∨ j = 6)) ∨ q = 12 ∨ (q = 14 ∧ (j = 6 ∨ j = 7 ∨ j = 8 ∨ j = 9 ∨ j = 10 ∨ j = 11)) ∨ (q = 19 ∧ (j = 1 ∨ j = 2))
theorem f_X1_readSteers {F : Nat} {p1 : Nat} {r : Int} {σ' : mMem} {σ : mMem} (hf : g_X1_readSteers F p1 σ = some (r, σ')) : ∀ q j, ¬ T_X1_readSteers p1 q j → σ' q j = σ q j := by
  unfold g_X1_readSteers at hf
  have hs : ∀ q j, ¬ T_X1_readSteers p1 q j → σ q j = σ q j := fun _ _ _ => rfl
  refine f_mem hf (fun q j hq => (mup_ne (by unfold T_X1_readSteers at hq; omega)).trans (hs q j hq)) (fun σ1 hs hf => ?_)
  refine f_gd hf (fun hf => ?_)
  refine f_mem hf (fun q j hq => (mup_ne (by unfold T_X1_readSteers at hq; omega)).trans (hs q j hq)) (fun σ2 hs hf => ?_)
  refine f_mob hf (fun r3 σ4 h1 hf => ?_)
  have hs := fun q j hq => (f_X8_next h1 q j (by unfold T_X1_readSteers at hq; unfold T_X8_next; omega)).trans (hs q j hq)
  refine f_gp hf (fun hg5 hf => ?_)
  refine f_gp hf (fun hg6 hf => ?_)
  refine f_mem hf (fun q j hq => (mup_ne (by unfold T_X1_readSteers at hq; rcases hg6 with hz | hz <;> rw [hz] <;> (try simp only [Int.toNat_natCast, Int.reduceToNat]) <;> omega)).trans (hs q j hq)) (fun σ7 hs hf => ?_)
  refine f_mob hf (fun r8 σ9 h1 hf => ?_)
  have hs := fun q j hq => (f_X1_rec _ _ _ _ _ _ _ h1 q j (by unfold T_X1_readSteers at hq; unfold T_X1_rec; omega)).trans (hs q j hq)
  refine f_gp hf (fun hg10 hf => ?_)
  refine f_gp hf (fun hg11 hf => ?_)
  refine f_mem hf (fun q j hq => (mup_ne (by unfold T_X1_readSteers at hq; rcases hg11 with hz | hz <;> rw [hz] <;> (try simp only [Int.toNat_natCast, Int.reduceToNat]) <;> omega)).trans (hs q j hq)) (fun σ12 hs hf => ?_)
  cases hf
  exact hs
def T_X1_readGoes (p1 : Nat) (q j : Nat) : Prop := (q = 3 ∧ (j = 4 ∨ j = 7 ∨ j = 8)) ∨ q = 7 ∨ (q = 8 ∧ (j = 4 ∨ j = 7 ∨ j = 8)) ∨ q = 12 ∨ (q = 14 ∧ (j = 6 ∨ j = 7 ∨ j = 8 ∨ j = 9 ∨ j = 10 ∨ j = 11)) ∨ (q = 19 ∧ (j = 1 ∨ j = 2))
theorem f_X1_readGoes {F : Nat} {p1 : Nat} {r : Int} {σ' : mMem} {σ : mMem} (hf : g_X1_readGoes F p1 σ = some (r, σ')) : ∀ q j, ¬ T_X1_readGoes p1 q j → σ' q j = σ q j := by
  unfold g_X1_readGoes at hf
  have hs : ∀ q j, ¬ T_X1_readGoes p1 q j → σ q j = σ q j := fun _ _ _ => rfl
  refine f_mem hf (fun q j hq => (mup_ne (by unfold T_X1_readGoes at hq; omega)).trans (hs q j hq)) (fun σ1 hs hf => ?_)
  refine f_gd hf (fun hf => ?_)
  refine f_mem hf (fun q j hq => (mup_ne (by unfold T_X1_readGoes at hq; omega)).trans (hs q j hq)) (fun σ2 hs hf => ?_)
  refine f_mob hf (fun r3 σ4 h1 hf => ?_)
  have hs := fun q j hq => (f_X8_next h1 q j (by unfold T_X1_readGoes at hq; unfold T_X8_next; omega)).trans (hs q j hq)
  refine f_gp hf (fun hg5 hf => ?_)
  refine f_gp hf (fun hg6 hf => ?_)
  refine f_mem hf (fun q j hq => (mup_ne (by unfold T_X1_readGoes at hq; rcases hg6 with hz | hz <;> rw [hz] <;> (try simp only [Int.toNat_natCast, Int.reduceToNat]) <;> omega)).trans (hs q j hq)) (fun σ7 hs hf => ?_)
  refine f_mob hf (fun r8 σ9 h1 hf => ?_)
  have hs := fun q j hq => (f_X1_rec _ _ _ _ _ _ _ h1 q j (by unfold T_X1_readGoes at hq; unfold T_X1_rec; omega)).trans (hs q j hq)
  refine f_gp hf (fun hg10 hf => ?_)
  refine f_gp hf (fun hg11 hf => ?_)
  refine f_mem hf (fun q j hq => (mup_ne (by unfold T_X1_readGoes at hq; rcases hg11 with hz | hz <;> rw [hz] <;> (try simp only [Int.toNat_natCast, Int.reduceToNat]) <;> omega)).trans (hs q j hq)) (fun σ12 hs hf => ?_)
  cases hf
  exact hs
def T_X3_forget  (q j : Nat) : Prop := (q = 54 ∧ (j = 2 ∨ j = 3 ∨ j = 4))
theorem f_X3_forget {F : Nat}  {r : Int} {σ' : mMem} {σ : mMem} (hf : g_X3_forget F σ = some (r, σ')) : ∀ q j, ¬ T_X3_forget  q j → σ' q j = σ q j := by
  unfold g_X3_forget at hf
  have hs : ∀ q j, ¬ T_X3_forget  q j → σ q j = σ q j := fun _ _ _ => rfl
  refine f_mem hf (fun q j hq => (mup_ne (by unfold T_X3_forget at hq; omega)).trans (hs q j hq)) (fun σ1 hs hf => ?_)
  refine f_mem hf (fun q j hq => (mup_ne (by unfold T_X3_forget at hq; omega)).trans (hs q j hq)) (fun σ2 hs hf => ?_)
  refine f_mem hf (fun q j hq => (mup_ne (by unfold T_X3_forget at hq; omega)).trans (hs q j hq)) (fun σ3 hs hf => ?_)
  cases hf
  exact hs
def T_X3_told  (q j : Nat) : Prop := False
theorem f_X3_told {F : Nat}  {r : Int} {σ' : mMem} {σ : mMem} (hf : g_X3_told F σ = some (r, σ')) : ∀ q j, ¬ T_X3_told  q j → σ' q j = σ q j := by
  unfold g_X3_told at hf
  have hs : ∀ q j, ¬ T_X3_told  q j → σ q j = σ q j := fun _ _ _ => rfl
  refine f_mob hf (fun r1 σ2 h1 hf => ?_)
  have hs := fun q j hq => (f_J9_min_7cf53 h1 q j (by unfold T_J9_min_7cf53; exact id)).trans (hs q j hq)
  cases hf
  exact hs
def T_J9_floorMod_7cf53  (q j : Nat) : Prop := False
theorem f_J9_floorMod_7cf53_b18 {F : Nat}  {r : Int} {σ' : mMem}   {x2 : Int} {σ : mMem} (hf : g_J9_floorMod_7cf53_b18 F x2 σ = some (r, σ')) : ∀ q j, ¬ T_J9_floorMod_7cf53  q j → σ' q j = σ q j := by
  unfold g_J9_floorMod_7cf53_b18 at hf
  have hs : ∀ q j, ¬ T_J9_floorMod_7cf53  q j → σ q j = σ q j := fun _ _ _ => rfl
  cases hf
  exact hs
theorem f_J9_floorMod_7cf53 {F : Nat}  {r : Int} {σ' : mMem} {x0 x1 : Int} {σ : mMem} (hf : g_J9_floorMod_7cf53 F x0 x1 σ = some (r, σ')) : ∀ q j, ¬ T_J9_floorMod_7cf53  q j → σ' q j = σ q j := by
  unfold g_J9_floorMod_7cf53 at hf
  have hs : ∀ q j, ¬ T_J9_floorMod_7cf53  q j → σ q j = σ q j := fun _ _ _ => rfl
  refine f_dv hf (fun hf => ?_)
  refine f_let hf (fun y1 hf => ?_)
  refine f_ite hf (fun hf => ?_) (fun hf => ?_)
  · exact fun q j hq => (f_J9_floorMod_7cf53_b18 hf q j hq).trans (hs q j hq)
  · refine f_ite hf (fun hf => ?_) (fun hf => ?_)
    · exact fun q j hq => (f_J9_floorMod_7cf53_b18 hf q j hq).trans (hs q j hq)
    · cases hf
      exact hs
def T_X10_saveTo (o : Nat) (a1 : Nat) (q j : Nat) : Prop := q = a1
theorem f_X10_saveTo_b35 {F : Nat} {o : Nat} {a1 n1 : Nat} {r : Int} {σ' : mMem}   {σ : mMem} (hf : g_X10_saveTo_b35 F o a1 n1  σ = some (r, σ')) : ∀ q j, ¬ T_X10_saveTo o a1 q j → σ' q j = σ q j := by
  unfold g_X10_saveTo_b35 at hf
  have hs : ∀ q j, ¬ T_X10_saveTo o a1 q j → σ q j = σ q j := fun _ _ _ => rfl
  cases hf
  exact hs
theorem f_X10_saveTo {F : Nat} {o : Nat} {a1 n1 : Nat} {r : Int} {σ' : mMem} {σ : mMem} (hf : g_X10_saveTo F o a1 n1 σ = some (r, σ')) : ∀ q j, ¬ T_X10_saveTo o a1 q j → σ' q j = σ q j := by
  unfold g_X10_saveTo at hf
  have hs : ∀ q j, ¬ T_X10_saveTo o a1 q j → σ q j = σ q j := fun _ _ _ => rfl
  refine f_ite hf (fun hf => ?_) (fun hf => ?_)
  · exact fun q j hq => (f_X10_saveTo_b35 hf q j hq).trans (hs q j hq)
  · refine f_gd hf (fun hf => ?_)
    refine f_mem hf (fun q j hq => (mupo_ne (by unfold T_X10_saveTo at hq; omega)).trans (hs q j hq)) (fun σ1 hs hf => ?_)
    refine f_gd hf (fun hf => ?_)
    refine f_mem hf (fun q j hq => (mup_ne (by unfold T_X10_saveTo at hq; omega)).trans (hs q j hq)) (fun σ2 hs hf => ?_)
    refine f_gd hf (fun hf => ?_)
    refine f_mem hf (fun q j hq => (mup_ne (by unfold T_X10_saveTo at hq; omega)).trans (hs q j hq)) (fun σ3 hs hf => ?_)
    exact fun q j hq => (f_X10_saveTo_b35 hf q j hq).trans (hs q j hq)
def T_X3_remember (w1 : Nat) (q j : Nat) : Prop := (q = 54 ∧ (j = 3 ∨ j = 4)) ∨ q = 56 ∨ q = 57 ∨ q = 58 ∨ q = 59 ∨ q = 60 ∨ q = 61 ∨ q = 62 ∨ q = 63 ∨ q = 64 ∨ q = 65 ∨ q = 66 ∨ q = 67 ∨ q = 68 ∨ q = 69 ∨ q = 70 ∨ q = 71 ∨ q = 72 ∨ q = 73 ∨ q = 74 ∨ q = 75
theorem f_X3_remember {F : Nat} {w1 : Nat} {r : Int} {σ' : mMem} {σ : mMem} (hf : g_X3_remember F w1 σ = some (r, σ')) : ∀ q j, ¬ T_X3_remember w1 q j → σ' q j = σ q j := by
  unfold g_X3_remember at hf
  have hs : ∀ q j, ¬ T_X3_remember w1 q j → σ q j = σ q j := fun _ _ _ => rfl
  refine f_mob hf (fun r1 σ2 h1 hf => ?_)
  have hs := fun q j hq => (f_J9_floorMod_7cf53 h1 q j (by unfold T_J9_floorMod_7cf53; exact id)).trans (hs q j hq)
  refine f_ga hf (fun hj3 hf => ?_)
  refine f_mob hf (fun r4 σ5 h1 hf => ?_)
  have hs := fun q j hq => (f_X10_saveTo h1 q j (by unfold T_X3_remember at hq; unfold T_X10_saveTo; omega)).trans (hs q j hq)
  refine f_gd hf (fun hf => ?_)
  refine f_mem hf (fun q j hq => (mup_ne (by unfold T_X3_remember at hq; omega)).trans (hs q j hq)) (fun σ6 hs hf => ?_)
  refine f_gd hf (fun hf => ?_)
  refine f_mem hf (fun q j hq => (mupo_ne (by unfold T_X3_remember at hq; omega)).trans (hs q j hq)) (fun σ7 hs hf => ?_)
  refine f_dv hf (fun hf => ?_)
  refine f_mem hf (fun q j hq => (mup_ne (by unfold T_X3_remember at hq; omega)).trans (hs q j hq)) (fun σ8 hs hf => ?_)
  refine f_mob hf (fun r9 σ10 h1 hf => ?_)
  have hs := fun q j hq => (f_J9_min_7cf53 h1 q j (by unfold T_J9_min_7cf53; exact id)).trans (hs q j hq)
  refine f_mem hf (fun q j hq => (mup_ne (by unfold T_X3_remember at hq; omega)).trans (hs q j hq)) (fun σ11 hs hf => ?_)
  cases hf
  exact hs
