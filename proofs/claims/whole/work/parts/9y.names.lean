/-! LAYER 2: kitchen, names -/
theorem hw_inj {L L' : Nat → Int} : ∀ (n n' : Nat), (∀ i, i < n → 1 ≤ L i ∧ L i ≤ 26) → (∀ i, i < n' → 1 ≤ L' i ∧ L' i ≤ 26) → hw L n = hw L' n' → n = n' ∧ ∀ i, i < n → L i = L' i := by
  intro n
  induction n with
  | zero =>
    intro n' _ h' e
    cases n' with
    | zero => exact ⟨rfl, fun i hi => absurd hi (by omega)⟩
    | succ m =>
      have := hw_pos (L := L') (n := m) h'
      rw [← e] at this
      exact absurd this (by show ¬ (0 : Int) < 0; omega)
  | succ n ih =>
    intro n' h h' e
    cases n' with
    | zero =>
      have := hw_pos (L := L) (n := n) h
      rw [e] at this
      exact absurd this (by show ¬ (0 : Int) < 0; omega)
    | succ m =>
      have e' : 256 * hw L n + (L n + 96) = 256 * hw L' m + (L' m + 96) := e
      have l1 := h n (by omega)
      have l2 := h' m (by omega)
      obtain ⟨i1, i2⟩ := ih m (fun i hi => h i (by omega)) (fun i hi => h' i (by omega)) (by omega)
      subst i1
      refine ⟨rfl, fun i hi => ?_⟩
      by_cases c : i = n
      · rw [c]; omega
      · exact i2 i (by omega)
theorem hw_cg {L L' : Nat → Int} : ∀ n, (∀ i, i < n → L i = L' i) → hw L n = hw L' n
  | 0, _ => rfl
  | n + 1, h => by
    show 256 * hw L n + (L n + 96) = 256 * hw L' n + (L' n + 96)
    rw [hw_cg n (fun i hi => h i (by omega)), h n (by omega)]
theorem NmR.inj {a w a' w' : Int} (h : NmR a w) (h' : NmR a' w') : a = a' ↔ w = w' := by
  obtain ⟨n, L, n1, n2, n3, n4, n5⟩ := h
  obtain ⟨m, M, m1, m2, m3, m4, m5⟩ := h'
  have rL : ∀ i, 0 ≤ L i ∧ L i ≤ 26 := fun i => by
    by_cases c : i < n
    · have := n2 i c; omega
    · rw [n3 i (by omega)]; decide
  have rM : ∀ i, 0 ≤ M i ∧ M i ≤ 26 := fun i => by
    by_cases c : i < m
    · have := m2 i c; omega
    · rw [m3 i (by omega)]; decide
  constructor
  · intro e
    rw [n4, m4] at e
    have a0 := rL 0
    have a1 := rL 1
    have a2 := rL 2
    have a3 := rL 3
    have a4 := rL 4
    have a5 := rL 5
    have b0 := rM 0
    have b1 := rM 1
    have b2 := rM 2
    have b3 := rM 3
    have b4 := rM 4
    have b5 := rM 5
    have k : L 0 = M 0 ∧ L 1 = M 1 ∧ L 2 = M 2 ∧ L 3 = M 3 ∧ L 4 = M 4 ∧ L 5 = M 5 := by omega
    have all : ∀ i, i < 6 → L i = M i := fun i hi => by
      rcases (by omega : i = 0 ∨ i = 1 ∨ i = 2 ∨ i = 3 ∨ i = 4 ∨ i = 5) with rfl | rfl | rfl | rfl | rfl | rfl
      · exact k.1
      · exact k.2.1
      · exact k.2.2.1
      · exact k.2.2.2.1
      · exact k.2.2.2.2.1
      · exact k.2.2.2.2.2
    have nm : n = m := by
      by_cases c : n < m
      · have := m2 n c
        rw [← all n (by omega), n3 n (by omega)] at this
        omega
      · by_cases c2 : m < n
        · have := n2 m c2
          rw [all m (by omega), m3 m (by omega)] at this
          omega
        · omega
    subst nm
    rw [n5, m5]
    exact hw_cg n (fun i hi => all i (by omega))
  · intro e
    rw [n5, m5] at e
    obtain ⟨i1, i2⟩ := hw_inj n m n2 m2 e
    subst i1
    have all : ∀ i, L i = M i := fun i => by
      by_cases c : i < n
      · exact i2 i c
      · rw [n3 i (by omega), m3 i (by omega)]
    rw [n4, m4, all 0, all 1, all 2, all 3, all 4, all 5]
theorem nm_of {l : List Int} {a w : Int} (h1 : 1 ≤ l.length ∧ l.length ≤ 6) (h2 : ∀ i, i < l.length → 1 ≤ l.getD i 0 ∧ l.getD i 0 ≤ 26) (h3 : a = l.getD 0 0 * 33554432 + l.getD 1 0 * 1048576 + l.getD 2 0 * 32768 + l.getD 3 0 * 1024 + l.getD 4 0 * 32 + l.getD 5 0) (h4 : w = hw (fun i => l.getD i 0) l.length) : NmR a w :=
  ⟨l.length, fun i => l.getD i 0, h1, h2, fun i hi => by simp [List.getD, List.getElem?_eq_none hi], h3, h4⟩
theorem own_nm : ∀ k, k < 28 → NmR (xOw k) (xOW k) := by
  intro k hk
  rcases (by omega : k = 0 ∨ k = 1 ∨ k = 2 ∨ k = 3 ∨ k = 4 ∨ k = 5 ∨ k = 6 ∨ k = 7 ∨ k = 8 ∨ k = 9 ∨ k = 10 ∨ k = 11 ∨ k = 12 ∨ k = 13 ∨ k = 14 ∨ k = 15 ∨ k = 16 ∨ k = 17 ∨ k = 18 ∨ k = 19 ∨ k = 20 ∨ k = 21 ∨ k = 22 ∨ k = 23 ∨ k = 24 ∨ k = 25 ∨ k = 26 ∨ k = 27) with rfl | rfl | rfl | rfl | rfl | rfl | rfl | rfl | rfl | rfl | rfl | rfl | rfl | rfl | rfl | rfl | rfl | rfl | rfl | rfl | rfl | rfl | rfl | rfl | rfl | rfl | rfl | rfl
  · exact nm_of (l := [6, 12, 15, 15, 18]) (by decide) (by decide) (by decide) (by decide)
  · exact nm_of (l := [2, 25]) (by decide) (by decide) (by decide) (by decide)
  · exact nm_of (l := [7, 18, 5, 25]) (by decide) (by decide) (by decide) (by decide)
  · exact nm_of (l := [2, 15, 24]) (by decide) (by decide) (by decide) (by decide)
  · exact nm_of (l := [1, 20]) (by decide) (by decide) (by decide) (by decide)
  · exact nm_of (l := [23, 1, 25]) (by decide) (by decide) (by decide) (by decide)
  · exact nm_of (l := [5, 25, 5, 19]) (by decide) (by decide) (by decide) (by decide)
  · exact nm_of (l := [1, 16, 1, 18, 20]) (by decide) (by decide) (by decide) (by decide)
  · exact nm_of (l := [1, 8, 5, 1, 4]) (by decide) (by decide) (by decide) (by decide)
  · exact nm_of (l := [2, 9, 1, 19]) (by decide) (by decide) (by decide) (by decide)
  · exact nm_of (l := [19, 20, 5, 5, 18, 19]) (by decide) (by decide) (by decide) (by decide)
  · exact nm_of (l := [7, 15, 5, 19]) (by decide) (by decide) (by decide) (by decide)
  · exact nm_of (l := [16, 15, 23, 5, 18]) (by decide) (by decide) (by decide) (by decide)
  · exact nm_of (l := [12, 1, 13, 16]) (by decide) (by decide) (by decide) (by decide)
  · exact nm_of (l := [3, 1, 20]) (by decide) (by decide) (by decide) (by decide)
  · exact nm_of (l := [12, 5, 6, 20]) (by decide) (by decide) (by decide) (by decide)
  · exact nm_of (l := [18, 9, 7, 8, 20]) (by decide) (by decide) (by decide) (by decide)
  · exact nm_of (l := [13, 9, 4]) (by decide) (by decide) (by decide) (by decide)
  · exact nm_of (l := [12, 15, 19, 20]) (by decide) (by decide) (by decide) (by decide)
  · exact nm_of (l := [19, 20, 5, 16]) (by decide) (by decide) (by decide) (by decide)
  · exact nm_of (l := [20, 21, 18, 14, 5, 4]) (by decide) (by decide) (by decide) (by decide)
  · exact nm_of (l := [9, 6]) (by decide) (by decide) (by decide) (by decide)
  · exact nm_of (l := [15, 18]) (by decide) (by decide) (by decide) (by decide)
  · exact nm_of (l := [1, 14, 4]) (by decide) (by decide) (by decide) (by decide)
  · exact nm_of (l := [14, 15, 20]) (by decide) (by decide) (by decide) (by decide)
  · exact nm_of (l := [1, 12, 12]) (by decide) (by decide) (by decide) (by decide)
  · exact nm_of (l := [13, 9, 14]) (by decide) (by decide) (by decide) (by decide)
  · exact nm_of (l := [13, 1, 24]) (by decide) (by decide) (by decide) (by decide)
/-- a run of letters is a name -/
theorem run_nm {b : Nat → Int} {s n : Nat} (h1 : 1 ≤ n ∧ n ≤ 6) (hl : ∀ j, j < n → xLt b (s + j)) : NmR (xPk b s n) (hw (xLs b s) n) := by
  refine ⟨n, fun i => if i < n then b (s + i) - 96 else 0, h1, fun i hi => ?_, fun i hi => if_neg (by omega), ?_, hw_cg n (fun i hi => (if_pos hi).symm)⟩
  · show 1 ≤ (if i < n then b (s + i) - 96 else 0) ∧ (if i < n then b (s + i) - 96 else 0) ≤ 26
    rw [if_pos hi]
    have := hl i hi
    omega
  · rcases (by omega : n = 1 ∨ n = 2 ∨ n = 3 ∨ n = 4 ∨ n = 5 ∨ n = 6) with rfl | rfl | rfl | rfl | rfl | rfl <;> simp [xPk] <;> omega
