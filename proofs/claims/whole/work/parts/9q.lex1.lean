/-! LAYER 2: kitchen, the signs of a text -/
abbrev xLt (b : Nat → Int) (j : Nat) : Prop := 97 ≤ b j ∧ b j ≤ 122
abbrev xDg (b : Nat → Int) (j : Nat) : Prop := 48 ≤ b j ∧ b j ≤ 57
abbrev xBla (b : Nat → Int) (j : Nat) : Prop := b j = 32 ∨ b j = 10
/-- here a sign begins -/
abbrev xSg (b : Nat → Int) (j : Nat) : Prop := ¬ xBla b j ∧ ¬ (xLt b j ∧ 0 < j ∧ xLt b (j - 1)) ∧ ¬ (xDg b j ∧ 0 < j ∧ xDg b (j - 1))
/-- without a blank -/
abbrev xJn (b : Nat → Int) (j : Nat) : Prop := (xLt b j ∨ xDg b j) ∧ 0 < j ∧ (xLt b (j - 1) ∨ xDg b (j - 1))
def xCt (b : Nat → Int) : Nat → Nat
  | 0 => 0
  | k + 1 => xCt b k + (if xSg b k then 1 else 0)
theorem xCt_le {b : Nat → Int} : ∀ {j k : Nat}, j ≤ k → xCt b j ≤ xCt b k ∧ xCt b k ≤ xCt b j + (k - j) := by
  intro j k
  induction k with
  | zero => intro h; rw [show j = 0 by omega]; omega
  | succ k ih =>
    intro h
    by_cases c : j = k + 1
    · rw [c]; omega
    · have := ih (by omega)
      have e : xCt b (k + 1) = xCt b k + (if xSg b k then 1 else 0) := rfl
      rw [e]
      by_cases c2 : xSg b k
      · rw [if_pos c2]; omega
      · rw [if_neg c2]; omega
theorem xCt_lt {b : Nat → Int} {j k : Nat} (h : j < k) (hs : xSg b j) : xCt b j < xCt b k := by
  have e : xCt b (j + 1) = xCt b j + 1 := by
    show xCt b j + (if xSg b j then 1 else 0) = _
    rw [if_pos hs]
  have := (xCt_le (b := b) (j := j + 1) (k := k) (by omega)).1
  omega
theorem last_st {b : Nat → Int} : ∀ k : Nat, 0 < k → ¬ xBla b (k - 1) → ∃ s, s < k ∧ xSg b s ∧ xCt b s + 1 = xCt b k ∧ ∀ j, s < j → j < k → ¬ xSg b j := by
  intro k
  induction k with
  | zero => intro h; omega
  | succ k ih =>
    intro _ hb
    rw [show k + 1 - 1 = k by omega] at hb
    by_cases c : xSg b k
    · refine ⟨k, by omega, c, ?_, fun j j1 j2 => by omega⟩
      show _ = xCt b k + (if xSg b k then 1 else 0)
      rw [if_pos c]
    · have e : xCt b (k + 1) = xCt b k := by
        show xCt b k + (if xSg b k then 1 else 0) = _
        rw [if_neg c]
        rfl
      obtain ⟨s, s1, s2, s3, s4⟩ := ih (by omega) (by omega)
      refine ⟨s, by omega, s2, by rw [e]; exact s3, fun j j1 j2 => ?_⟩
      by_cases cj : j = k
      · rw [cj]; exact c
      · exact s4 j j1 (by omega)
/-- all letters from where a sign began -/
theorem run_lt {b : Nat → Int} {s k : Nat} (hs : s < k) (hl : xLt b (k - 1)) (hn : ∀ j, s < j → j < k → ¬ xSg b j) : ∀ d, d < k - s → xLt b (k - 1 - d) := by
  intro d
  induction d with
  | zero => intro _; exact hl
  | succ d ih =>
    intro hd
    have h1 := ih (by omega)
    have h2 := hn (k - 1 - d) (by omega) (by omega)
    rw [show k - 1 - (d + 1) = k - 1 - d - 1 by omega]
    have : ¬ xBla b (k - 1 - d) := by omega
    by_cases c : 0 < k - 1 - d ∧ xLt b (k - 1 - d - 1)
    · exact c.2
    · exact absurd ⟨this, fun q => c ⟨q.2.1, q.2.2⟩, fun q => by have := q.1; omega⟩ h2
theorem run_dg {b : Nat → Int} {s k : Nat} (hs : s < k) (hl : xDg b (k - 1)) (hn : ∀ j, s < j → j < k → ¬ xSg b j) : ∀ d, d < k - s → xDg b (k - 1 - d) := by
  intro d
  induction d with
  | zero => intro _; exact hl
  | succ d ih =>
    intro hd
    have h1 := ih (by omega)
    have h2 := hn (k - 1 - d) (by omega) (by omega)
    rw [show k - 1 - (d + 1) = k - 1 - d - 1 by omega]
    have : ¬ xBla b (k - 1 - d) := by omega
    by_cases c : 0 < k - 1 - d ∧ xDg b (k - 1 - d - 1)
    · exact c.2
    · exact absurd ⟨this, fun q => by have := q.1; omega, fun q => c ⟨q.2.1, q.2.2⟩⟩ h2
/-- five bits a letter; the number -/
def xPk (b : Nat → Int) (s : Nat) : Nat → Int
  | 0 => 0
  | n + 1 => xPk b s n + (b (s + n) - 96) * 2 ^ (25 - 5 * n)
def xNu (b : Nat → Int) (s : Nat) : Nat → Int
  | 0 => 0
  | n + 1 => 10 * xNu b s n + b (s + n) - 48
theorem xNu_rng {b : Nat → Int} {s : Nat} : ∀ n, (∀ j, j < n → xDg b (s + j)) → 0 ≤ xNu b s n ∧ xNu b s n < 10 ^ n
  | 0, _ => by unfold xNu; decide
  | n + 1, h => by
    have ih := xNu_rng n (fun j hj => h j (by omega))
    have := h n (by omega)
    unfold xNu
    rw [Int.pow_succ]
    omega
/-- a sign as the class has it, k bytes read -/
def TokC (σ : mMem) (b : Nat → Int) (s i k : Nat) : Prop := σ 17 i = (s : Int) ∧ ¬ xJn b s ∧ ((¬ xLt b s ∧ ¬ xDg b s ∧ σ 16 i = 4 ∧ σ 18 i = b s) ∨ (∃ n, (1 ≤ n ∧ n ≤ 6 ∧ s + n ≤ k) ∧ (∀ j, j < n → xLt b (s + j)) ∧ (s + n = k ∨ ¬ xLt b (s + n)) ∧ σ 16 i = 1 ∧ σ 18 i = xPk b s n) ∨ (∃ n, (1 ≤ n ∧ n ≤ 4 ∧ s + n ≤ k) ∧ (∀ j, j < n → xDg b (s + j)) ∧ (s + n = k ∨ ¬ xDg b (s + n)) ∧ σ 16 i = 3 ∧ σ 18 i = xNu b s n))
theorem TokC.same {σ σ' : mMem} {b : Nat → Int} {s i k : Nat} (h : TokC σ b s i k) (h6 : σ' 16 i = σ 16 i) (h7 : σ' 17 i = σ 17 i) (h8 : σ' 18 i = σ 18 i) : TokC σ' b s i k := by
  unfold TokC at *
  rw [h6, h7, h8]
  exact h
/-- one byte on, that doesn't belong to it -/
theorem TokC.on {σ : mMem} {b : Nat → Int} {s i k : Nat} (h : TokC σ b s i k) (hs : s < k) (hl : ¬ (xLt b k ∧ xLt b (k - 1))) (hd : ¬ (xDg b k ∧ xDg b (k - 1))) : TokC σ b s i (k + 1) := by
  obtain ⟨h1, h2, h3⟩ := h
  refine ⟨h1, h2, ?_⟩
  rcases h3 with h3 | ⟨n, n1, n2, n3, n4⟩ | ⟨n, n1, n2, n3, n4⟩
  · exact Or.inl h3
  · refine Or.inr (Or.inl ⟨n, by omega, n2, Or.inr ?_, n4⟩)
    rcases n3 with e | e
    · intro q
      have := n2 (n - 1) (by omega)
      rw [show s + (n - 1) = k - 1 by omega] at this
      rw [e] at q
      exact hl ⟨q, this⟩
    · exact e
  · refine Or.inr (Or.inr ⟨n, by omega, n2, Or.inr ?_, n4⟩)
    rcases n3 with e | e
    · intro q
      have := n2 (n - 1) (by omega)
      rw [show s + (n - 1) = k - 1 by omega] at this
      rw [e] at q
      exact hd ⟨q, this⟩
    · exact e
def ScI (σ : mMem) (b : Nat → Int) (k : Nat) : Prop := σ 14 5 = (xCt b k : Int) ∧ ∀ s, s < k → xSg b s → TokC σ b s (xCt b s) k
/-- the text goes wrong at k: the sign that began at s -/
def ScB (σ : mMem) (b : Nat → Int) (k s : Nat) : Prop := xSg b s ∧ s ≤ k ∧ σ 14 5 = (xCt b s : Int) + 1 ∧ (σ 16 (xCt b s) = 5 ∧ σ 17 (xCt b s) = (s : Int) ∧ σ 18 (xCt b s) = (k : Int)) ∧ (∀ s', s' < s → xSg b s' → TokC σ b s' (xCt b s') s) ∧ ((s = k ∧ xJn b s) ∨ (¬ xJn b s ∧ k = s + 6 ∧ ∀ j, j ≤ 6 → xLt b (s + j)) ∨ (¬ xJn b s ∧ k = s + 4 ∧ ∀ j, j ≤ 4 → xDg b (s + j)))
theorem c_let {F : Nat} {σ : mMem} {x : Int} (hx : i32 x) : g_X8_isLetter F x σ = some (mb (97 ≤ x ∧ x ≤ 122), σ) := by
  unfold g_X8_isLetter g_X8_isLetter_b16 g_X8_isLetter_b17
  rw [mw_id hx.1 hx.2, mw_id (z := 97) (by decide) (by decide), mw_id (z := 122) (by decide) (by decide)]
  by_cases c1 : x < 97
  · rw [mb_f (by omega)]; exact e_t c1 (e_t (by decide) rfl)
  · by_cases c2 : 122 < x
    · rw [mb_f (by omega)]; exact e_f c1 (e_t c2 (e_t (by decide) rfl))
    · rw [mb_t (by omega)]; exact e_f c1 (e_f c2 (e_t (by decide) rfl))
theorem c_dig {F : Nat} {σ : mMem} {x : Int} (hx : i32 x) : g_X8_isDigit F x σ = some (mb (48 ≤ x ∧ x ≤ 57), σ) := by
  unfold g_X8_isDigit g_X8_isDigit_b16 g_X8_isDigit_b17
  rw [mw_id hx.1 hx.2, mw_id (z := 48) (by decide) (by decide), mw_id (z := 57) (by decide) (by decide)]
  by_cases c1 : x < 48
  · rw [mb_f (by omega)]; exact e_t c1 (e_t (by decide) rfl)
  · by_cases c2 : 57 < x
    · rw [mb_f (by omega)]; exact e_f c1 (e_t c2 (e_t (by decide) rfl))
    · rw [mb_t (by omega)]; exact e_f c1 (e_f c2 (e_t (by decide) rfl))
theorem c_bla {F : Nat} {σ : mMem} {x : Int} (hx : i32 x) : g_X8_isBlank F x σ = some (mb (x = 32 ∨ x = 10), σ) := by
  unfold g_X8_isBlank g_X8_isBlank_b12 g_X8_isBlank_b17
  rw [mw_id hx.1 hx.2, mw_id (z := 10) (by decide) (by decide), mw_id (z := 32) (by decide) (by decide)]
  by_cases c1 : x = 10
  · rw [mb_t (by omega)]; exact e_t c1 (e_t (by decide) rfl)
  · by_cases c2 : x = 32
    · rw [mb_t (by omega)]; exact e_f c1 (e_f (fun e => e c2) (e_t (by decide) rfl))
    · rw [mb_f (by omega)]; exact e_f c1 (e_t c2 (e_t (by decide) rfl))
theorem c_add {F c : Nat} {σ : mMem} {x y z : Int} (hc : σ 14 5 = (c : Int)) (h : c < 1600) : g_X8_add F x y z σ = some (0, mup (mup (mup (mup σ 16 c x) 17 c y) 18 c z) 14 5 ((c : Int) + 1)) := by
  unfold g_X8_add g_X8_add_b59
  rw [hc]
  refine e_f (by rw [mw_id (by omega) (by omega)]; omega) (e_f (by rw [mw_id (by omega) (by omega), mw_id (by omega) (by omega)]; omega) (e_t (mwR (by omega) (by decide)) (e_mem ?_)))
  rw [mup_off (o := 16) (q := 14) (by decide), hc]
  refine e_t (mwR (by omega) (by decide)) (e_mem ?_)
  rw [mup_off (o := 17) (q := 14) (by decide), mup_off (o := 16) (q := 14) (by decide), hc]
  refine e_t (mwR (by omega) (by decide)) (e_mem (e_mem ?_))
  rw [mup_off (o := 18) (q := 14) (by decide), mup_off (o := 17) (q := 14) (by decide), mup_off (o := 16) (q := 14) (by decide), hc, mwN (by omega)]
