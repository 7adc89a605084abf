/-! LAYER 2: kitchen, the plan in the making; settings -/
/-- a box that is told -/
def BxK (σ τ : mMem) (p i k : Nat) : Prop := NmR (σ (p + 2) k) (τ 102 (6 * i + k)) ∧ τ 92 (6 * i + k) = 9 * σ (p + 3) (10 * k + 1) + σ (p + 3) (10 * k) ∧ (0 ≤ σ (p + 3) (10 * k) ∧ σ (p + 3) (10 * k) < σ p 9 ∧ 0 ≤ σ (p + 3) (10 * k + 1) ∧ σ (p + 3) (10 * k + 1) < σ p 10) ∧ (τ 93 (6 * i + k) = σ (p + 3) (10 * k + 2) ∧ 0 ≤ σ (p + 3) (10 * k + 2) ∧ σ (p + 3) (10 * k + 2) ≤ 3) ∧ (τ 94 (6 * i + k) = σ (p + 3) (10 * k + 5) ∧ 0 ≤ σ (p + 3) (10 * k + 5) ∧ σ (p + 3) (10 * k + 5) ≤ 2) ∧ (τ 95 (6 * i + k) = σ (p + 3) (10 * k + 6) ∧ 0 ≤ σ (p + 3) (10 * k + 6) ∧ σ (p + 3) (10 * k + 6) ≤ 3) ∧ (τ 96 (6 * i + k) = σ (p + 3) (10 * k + 7) ∧ 0 ≤ σ (p + 3) (10 * k + 7) ∧ σ (p + 3) (10 * k + 7) ≤ 9) ∧ σ (p + 3) (10 * k + 4) = 0 ∧ σ (p + 3) (10 * k + 8) = 0
def FlK (σ τ : mMem) (p i : Nat) : Prop := (σ p 9 = τ 88 i ∧ 2 ≤ σ p 9 ∧ σ p 9 ≤ 9) ∧ (σ p 10 = τ 89 i ∧ 2 ≤ σ p 10 ∧ σ p 10 ≤ 9) ∧ ∀ j, j < 81 → τ 90 (81 * i + j) = σ (p + 1) j ∧ 0 ≤ σ (p + 1) j ∧ σ (p + 1) j ≤ 9
def BsK (σ τ : mMem) (p i : Nat) : Prop := (σ p 11 = τ 91 i ∧ 0 ≤ σ p 11 ∧ σ p 11 ≤ 6) ∧ (∀ k : Nat, (k : Int) < σ p 11 → BxK σ τ p i k) ∧ ∀ k f : Nat, σ p 11 ≤ (k : Int) → k < 6 → f < 10 → σ (p + 3) (10 * k + f) = 0
def TdK (σ τ : mMem) (p i : Nat) : Prop := (τ 97 (3 * i) = σ p 12 ∧ 0 ≤ σ p 12 ∧ σ p 12 ≤ 999) ∧ (τ 97 (3 * i + 1) = σ p 13 ∧ 0 ≤ σ p 13 ∧ σ p 13 ≤ 9) ∧ (τ 97 (3 * i + 2) = σ p 14 ∧ 0 ≤ σ p 14 ∧ σ p 14 ≤ 100)
def FoK (σ τ : mMem) (p i a w : Nat) (m : Int) : Prop := (σ p a = 0 ∧ σ p (a + 1) = 0 ∧ τ 98 (2 * i + w) = -1) ∨ ((0 ≤ σ p a ∧ σ p a < σ p (a + 1) ∧ σ p (a + 1) ≤ σ p 4) ∧ τ 98 (2 * i + w) = σ p a ∧ τ 99 (2 * i + w) = σ p (a + 1) ∧ (∃ c, okR (σ (p + 4)) (σ p (a + 1) - σ p a).toNat (σ p a).toNat [] = some [c]) ∧ knOK (σ (p + 4)) m (σ p (a + 1) - σ p a).toNat (σ p a).toNat)
def CdK (σ τ : mMem) (p i : Nat) : Prop := (τ 86 29 = σ p 4 ∧ 0 ≤ σ p 4 ∧ σ p 4 ≤ 1600) ∧ (∀ j : Nat, (j : Int) < σ p 4 → srt (τ 100 (1600 * i + j)) (τ 101 (1600 * i + j)) ∧ trc (τ 100 (1600 * i + j)) (τ 101 (1600 * i + j)) = σ (p + 4) j) ∧ FoK σ τ p i 5 0 5 ∧ FoK σ τ p i 7 1 7
/-- the class's plan p, the reference's bank i -/
def PlK (σ τ : mMem) (p i : Nat) : Prop := ((p = 3 ∨ p = 8) ∧ (i = 0 ∨ i = 1) ∧ σ 13 2 = (p : Int) ∧ τ 86 30 = (i : Int)) ∧ FlK σ τ p i ∧ BsK σ τ p i ∧ TdK σ τ p i ∧ CdK σ τ p i
theorem CTk.cg {σ σ' : mMem} {b : Nat → Int} {l s : Nat} (h : CTk σ b l s) (e1 : σ' 1 = σ 1) (e4 : σ' 14 = σ 14) (e6 : σ' 16 = σ 16) (e7 : σ' 17 = σ 17) (e8 : σ' 18 = σ 18) : CTk σ' b l s := by
  unfold CTk Lx LexG LexB TokM Mrk at *
  rw [e1, e4, e6, e7, e8]
  exact h
theorem StC.cg {σ σ' : mMem} {b : Nat → Int} {l : Nat} (h : StC σ b l) (e : ∀ q, q = 1 ∨ (14 ≤ q ∧ q ≤ 18) → σ' q = σ q) : StC σ' b l := by
  rcases h with ⟨s, c⟩ | ⟨fk, fp, d⟩
  · exact Or.inl ⟨s, c.cg (e 1 (by decide)) (e 14 (by decide)) (e 16 (by decide)) (e 17 (by decide)) (e 18 (by decide))⟩
  · refine Or.inr ⟨fk, fp, ?_⟩
    unfold DdC at *
    rw [e 14 (by decide)]
    exact d
theorem Mt.cg {σ σ' τ τ' : mMem} {b : Nat → Int} {l : Nat} (h : Mt σ τ b l) (e : ∀ q, q = 1 ∨ (14 ≤ q ∧ q ≤ 18) → σ' q = σ q) (f7 : τ' 87 = τ 87) (f6 : ∀ j, (2 ≤ j ∧ j ≤ 9) ∨ j = 12 → τ' 86 j = τ 86 j) : Mt σ' τ' b l := by
  obtain ⟨hx, h2⟩ := h
  have hx' : RTx τ' b l := ⟨hx.1, by rw [f6 2 (by decide)]; exact hx.2.1, fun j hj => by rw [f7]; exact hx.2.2 j hj⟩
  refine ⟨hx', ?_⟩
  rcases h2 with ⟨s, c, r, e8⟩ | ⟨fk, fp, d, r⟩
  · refine Or.inl ⟨s, c.cg (e 1 (by decide)) (e 14 (by decide)) (e 16 (by decide)) (e 17 (by decide)) (e 18 (by decide)), ?_, by rw [f6 8 (by decide)]; exact e8⟩
    unfold RSg at *
    rw [f6 3 (by decide), f6 4 (by decide), f6 5 (by decide), f6 6 (by decide), f6 7 (by decide), f6 12 (by decide)]
    exact r
  · refine Or.inr ⟨fk, fp, ?_, ?_⟩
    · unfold DdC at *
      rw [e 14 (by decide)]
      exact d
    · unfold DdR at *
      rw [f6 8 (by decide), f6 9 (by decide), f6 12 (by decide)]
      exact r
theorem CTk.of {σ σ' : mMem} {b : Nat → Int} {l : Nat} (e : ∀ q, q = 1 ∨ (14 ≤ q ∧ q ≤ 18) → σ' q = σ q) (h : ∃ s, CTk σ' b l s) : ∃ s, CTk σ b l s := by
  obtain ⟨s, c⟩ := h
  exact ⟨s, c.cg (e 1 (by decide)).symm (e 14 (by decide)).symm (e 16 (by decide)).symm (e 17 (by decide)).symm (e 18 (by decide)).symm⟩
/-- what the class reads on, its plan is as it was -/
theorem PlK.fn {σ σ' τ τ' : mMem} {p i : Nat} (h : PlK σ τ p i) (f : FN σ' σ) (g : FR τ' τ) : PlK σ' τ' p i := by
  have hp := h.1.1
  have r : ∀ q, q ≠ 14 → σ' q = σ q := f.1
  have t : ∀ q, q ≠ 86 → τ' q = τ q := g.1
  have ep : σ' p = σ p := r p (by omega)
  have e1 : σ' (p + 1) = σ (p + 1) := r _ (by omega)
  have e2 : σ' (p + 2) = σ (p + 2) := r _ (by omega)
  have e3 : σ' (p + 3) = σ (p + 3) := r _ (by omega)
  have e4 : σ' (p + 4) = σ (p + 4) := r _ (by omega)
  unfold PlK FlK BsK BxK TdK CdK FoK at *
  rw [ep, e1, e2, e3, e4, r 13 (by decide), g.2 30 (by decide), g.2 29 (by decide), t 88 (by decide), t 89 (by decide), t 90 (by decide), t 91 (by decide), t 92 (by decide), t 93 (by decide), t 94 (by decide), t 95 (by decide), t 96 (by decide), t 97 (by decide), t 98 (by decide), t 99 (by decide), t 100 (by decide), t 101 (by decide), t 102 (by decide)]
  exact h
/-- the reference begins a statement: on from its first word -/
theorem r_cnt {F l s : Nat} {σ σ' : mMem} {b : Nat → Int} (c : CTk σ b l s) (a : ∀ τ, Mt σ τ b l → ∃ τ', g_X12_ahead F τ = some (0, τ') ∧ FA τ' τ ∧ Mt σ' τ' b l) : ∀ τ, Mt σ τ b l → ∃ τ', g_X12_counts F 0 τ = some (1, τ') ∧ FR τ' τ ∧ Mt σ' τ' b l ∧ τ' 86 8 = 0 := by
  intro τ hm
  obtain ⟨τ', y1, y2, y3⟩ := a τ hm
  have e8 := (hm.live c).2
  have e8' : τ' 86 8 = 0 := by rw [y2.2 8 (by decide) (by decide) (by decide) (by decide) (by decide) (by decide)]; exact e8
  refine ⟨τ', ?_, y2.fr, y3, e8'⟩
  unfold g_X12_counts g_X12_counts_b21 g_X12_counts_b32 g_X12_counts_b44
  rw [e8]
  refine e_f (fun e => e rfl) (e_t (by decide) (e_f (fun e => e rfl) (e_mob y1 ?_)))
  rw [e8']
  exact e_f (fun e => e rfl) (e_t (by decide) rfl)
