/-! LAYER 2: kitchen, the class's signs, all -/
def TokM (σ : mMem) (b : Nat → Int) (s i l : Nat) : Prop := σ 17 i = (s : Int) ∧ ¬ xJn b s ∧ ((¬ xLt b s ∧ ¬ xDg b s ∧ σ 16 i = 4 ∧ σ 18 i = b s) ∨ (∃ n, (1 ≤ n ∧ n ≤ 6 ∧ s + n ≤ l) ∧ (∀ j, j < n → xLt b (s + j)) ∧ (s + n = l ∨ ¬ xLt b (s + n)) ∧ Mrk σ i (xPk b s n)) ∨ (∃ n, (1 ≤ n ∧ n ≤ 4 ∧ s + n ≤ l) ∧ (∀ j, j < n → xDg b (s + j)) ∧ (s + n = l ∨ ¬ xDg b (s + n)) ∧ σ 16 i = 3 ∧ σ 18 i = xNu b s n))
def LexG (σ : mMem) (b : Nat → Int) (l : Nat) : Prop := σ 14 5 = (xCt b l : Int) ∧ ∀ s, s < l → xSg b s → TokM σ b s (xCt b s) l
def xWrg (b : Nat → Int) (k s : Nat) : Prop := (s = k ∧ xJn b s) ∨ (¬ xJn b s ∧ k = s + 6 ∧ ∀ j, j ≤ 6 → xLt b (s + j)) ∨ (¬ xJn b s ∧ k = s + 4 ∧ ∀ j, j ≤ 4 → xDg b (s + j))
def LexB (σ : mMem) (b : Nat → Int) (l k s : Nat) : Prop := (xSg b s ∧ s ≤ k ∧ k < l) ∧ σ 14 5 = (xCt b s : Int) + 1 ∧ (σ 16 (xCt b s) = 5 ∧ σ 17 (xCt b s) = (s : Int) ∧ σ 18 (xCt b s) = (k : Int)) ∧ (∀ s', s' < s → xSg b s' → TokM σ b s' (xCt b s') l) ∧ xWrg b k s
theorem xCt_sur {b : Nat → Int} : ∀ (l i : Nat), i < xCt b l → ∃ s, s < l ∧ xSg b s ∧ xCt b s = i := by
  intro l
  induction l with
  | zero => intro i h; exact absurd h (by show ¬ i < 0; omega)
  | succ l ih =>
    intro i h
    by_cases c : xSg b l
    · rw [xCt_s c] at h
      by_cases ci : i = xCt b l
      · exact ⟨l, by omega, c, ci.symm⟩
      · obtain ⟨s, s1, s2⟩ := ih i (by omega)
        exact ⟨s, by omega, s2⟩
    · rw [xCt_n c] at h
      obtain ⟨s, s1, s2⟩ := ih i h
      exact ⟨s, by omega, s2⟩
theorem xCt_inj {b : Nat → Int} {s s' : Nat} (h : xSg b s) (h' : xSg b s') (e : xCt b s = xCt b s') : s = s' := by
  by_cases c1 : s < s'
  · have := xCt_lt c1 h; omega
  · by_cases c2 : s' < s
    · have := xCt_lt c2 h'; omega
    · omega
theorem xPk_b {b : Nat → Int} {s n : Nat} (hn : n ≤ 6) (h : ∀ j, j < n → xLt b (s + j)) : 0 ≤ xPk b s n ∧ xPk b s n < 1073741824 := by
  obtain ⟨a, a1, a2, a3⟩ := xPk_rng n hn h
  rw [a3]
  rcases (by omega : n = 0 ∨ n = 1 ∨ n = 2 ∨ n = 3 ∨ n = 4 ∨ n = 5 ∨ n = 6) with rfl | rfl | rfl | rfl | rfl | rfl | rfl <;> simp only [Nat.reduceMul, Nat.reduceSub] at a2 ⊢ <;> omega
theorem xNu_b {b : Nat → Int} {s n : Nat} (hn : n ≤ 4) (h : ∀ j, j < n → xDg b (s + j)) : 0 ≤ xNu b s n ∧ xNu b s n ≤ 9999 := by
  have := xNu_rng n h
  rcases (by omega : n = 0 ∨ n = 1 ∨ n = 2 ∨ n = 3 ∨ n = 4) with rfl | rfl | rfl | rfl | rfl <;> omega
/-- the fields of a sign that is not yet marked -/
theorem TokC.rng {σ : mMem} {b : Nat → Int} {s i k : Nat} (h : TokC σ b s i k) (hb : 0 ≤ b s ∧ b s ≤ 255) : (0 ≤ σ 18 i ∧ σ 18 i ≤ 2000000000) ∧ 1 ≤ σ 16 i ∧ σ 16 i ≤ 5 := by
  obtain ⟨-, -, h3⟩ := h
  rcases h3 with ⟨-, -, h4, h5⟩ | ⟨n, n1, n2, -, h4, h5⟩ | ⟨n, n1, n2, -, h4, h5⟩
  · rw [h4, h5]; omega
  · have := xPk_b n1.2.1 n2
    rw [h4, h5]; omega
  · have := xNu_b n1.2.1 n2
    rw [h4, h5]; omega
theorem TokC.mark {σ σ' : mMem} {b : Nat → Int} {s i l : Nat} (h : TokC σ b s i l) (h17 : σ' 17 = σ 17) (hm : σ 16 i = 1 → Mrk σ' i (σ 18 i)) (hn : ¬ σ 16 i = 1 → σ' = σ) : TokM σ' b s i l := by
  obtain ⟨h1, h2, h3⟩ := h
  refine ⟨by rw [h17]; exact h1, h2, ?_⟩
  rcases h3 with ⟨a1, a2, h4, h5⟩ | ⟨n, n1, n2, n3, h4, h5⟩ | ⟨n, n1, n2, n3, h4, h5⟩
  · rw [hn (by omega)]
    exact Or.inl ⟨a1, a2, h4, h5⟩
  · refine Or.inr (Or.inl ⟨n, n1, n2, n3, ?_⟩)
    rw [← h5]
    exact hm h4
  · rw [hn (by omega)]
    exact Or.inr (Or.inr ⟨n, n1, n2, n3, h4, h5⟩)
theorem TokM.same {σ σ' : mMem} {b : Nat → Int} {s i l : Nat} (h : TokM σ b s i l) (h6 : σ' 16 i = σ 16 i) (h7 : σ' 17 i = σ 17 i) (h8 : σ' 18 i = σ 18 i) : TokM σ' b s i l := by
  unfold TokM Mrk at *
  rw [h6, h7, h8]
  exact h
/-- marking: of the signs ahead of m all, of the others none -/
theorem c_marks {F l m0 c : Nat} {σ0 : mMem} {b : Nat → Int} (hF : 2000 ≤ F) (hc : c ≤ 1600) (hO : Own σ0) (hb : ∀ j, j < l → 0 ≤ b j ∧ b j ≤ 255) : ∀ (d i fuel : Nat) (σ : mMem), d + i = c → d < fuel → σ 14 5 = (c : Int) → FS σ σ0 → (∀ s, s < m0 → s < l → xSg b s → (xCt b s < i → TokM σ b s (xCt b s) l) ∧ (i ≤ xCt b s → TokC σ b s (xCt b s) l)) → (∀ j, i ≤ j → j < c → (∃ s, s < m0 ∧ s < l ∧ xSg b s ∧ xCt b s = j) ∨ (σ 16 j = 5 ∧ 0 ≤ σ 18 j ∧ σ 18 j ≤ 2000)) → ∃ σ', (∀ f, g_X8_open_h38 F (fuel + f) (i : Int) σ = g_X8_open_h38 F (fuel - d + f) (c : Int) σ') ∧ FS σ' σ0 ∧ σ' 14 = σ 14 ∧ σ' 17 = σ 17 ∧ (∀ s, s < m0 → s < l → xSg b s → xCt b s < c → TokM σ' b s (xCt b s) l) ∧ ∀ j, σ 16 j = 5 → σ' 16 j = 5 ∧ σ' 18 j = σ 18 j := by
  intro d
  induction d with
  | zero =>
    intro i fuel σ e1 e2 e3 e4 e5 e6
    have ei : i = c := by omega
    subst ei
    exact ⟨σ, fun f => rfl, e4, rfl, rfl, fun s s1 s2 s3 s4 => (e5 s s1 s2 s3).1 s4, fun j hj => ⟨hj, rfl⟩⟩
  | succ d ih =>
    intro i fuel σ e1 e2 e3 e4 e5 e6
    have O : Own σ := fun k hk => by rw [e4.1 15 (by decide) (by decide) (by decide) (by decide)]; exact hO k hk
    have rg : (0 ≤ σ 18 i ∧ σ 18 i ≤ 2000000000) ∧ 1 ≤ σ 16 i ∧ σ 16 i ≤ 5 := by
      rcases e6 i (by omega) (by omega) with ⟨s, s1, s2, s3, s4⟩ | ⟨h1, h2, h3⟩
      · have := ((e5 s s1 s2 s3).2 (by omega)).rng (hb s s2)
        rw [s4] at this
        exact this
      · rw [h1]; omega
    obtain ⟨σ1, a1, a2, a3, a4, a5⟩ := c_mark (F := F) (i := i) (σ := σ) hF (by omega) O rg.1 rg.2
    have f1 : FS σ1 σ0 := ⟨fun q q1 q2 q3 q4 => by rw [a2 q q2 q4]; exact e4.1 q q1 q2 q3 q4, fun j hj => by rw [a2 14 (by decide) (by decide)]; exact e4.2 j hj⟩
    obtain ⟨σ', t1, t2, t3, t4, t5, t6⟩ := ih (i + 1) (fuel - 1) σ1 (by omega) (by omega) (by rw [a2 14 (by decide) (by decide)]; exact e3) f1 (fun s s1 s2 s3 => by
        obtain ⟨w1, w2⟩ := e5 s s1 s2 s3
        by_cases ci : xCt b s = i
        · refine ⟨fun _ => ?_, fun q => absurd q (by omega)⟩
          have := w2 (by omega)
          rw [ci] at this ⊢
          exact this.mark (a2 17 (by decide) (by decide)) a4 a5
        · obtain ⟨b6, b8⟩ := a3 _ ci
          have b7 : σ1 17 = σ 17 := a2 17 (by decide) (by decide)
          exact ⟨fun q => (w1 (by omega)).same b6 (by rw [b7]) b8, fun q => (w2 (by omega)).same b6 (by rw [b7]) b8⟩) (fun j j1 j2 => by
        rcases e6 j (by omega) j2 with h | h
        · exact Or.inl h
        · obtain ⟨b6, b8⟩ := a3 j (by omega)
          rw [b6, b8]
          exact Or.inr h)
    refine ⟨σ', fun f => ?_, t2, by rw [t3, a2 14 (by decide) (by decide)], by rw [t4, a2 17 (by decide) (by decide)], t5, fun j hj => ?_⟩
    · rw [show fuel - (d + 1) + f = fuel - 1 - d + f by omega, ← t1 f]
      obtain ⟨g, hg⟩ : ∃ g, fuel + f = g + 1 := ⟨fuel + f - 1, by omega⟩
      rw [hg, show fuel - 1 + f = g by omega]
      conv => lhs; unfold g_X8_open_h38
      rw [e3, show ((i + 1 : Nat) : Int) = (i : Int) + 1 by omega]
      exact e_f (by rw [mw_id (by omega) (by omega), mw_id (by omega) (by omega)]; omega) (e_mob a1 rfl)
    · have : σ1 16 j = 5 ∧ σ1 18 j = σ 18 j := by
        by_cases ci : j = i
        · rw [a5 (by rw [← ci, hj]; decide)]
          exact ⟨hj, rfl⟩
        · obtain ⟨b6, b8⟩ := a3 j ci
          rw [b6, b8]
          exact ⟨hj, rfl⟩
      obtain ⟨y1, y2⟩ := t6 j this.1
      exact ⟨y1, by rw [y2]; exact this.2⟩
