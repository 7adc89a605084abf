/-! LAYER 2: kitchen, sign by sign -/
def Nx (b : Nat → Int) (l s s' : Nat) : Prop := (s < s' ∧ s' ≤ l) ∧ (s' = l ∨ xSg b s') ∧ ∀ j, s < j → j < s' → ¬ xSg b j
theorem nx_ex {b : Nat → Int} {l s : Nat} (h : s < l) : ∃ s', Nx b l s s' := by
  have key : ∀ (d k : Nat), d + k = l → s < k → (∀ j, s < j → j < k → ¬ xSg b j) → ∃ s', Nx b l s s' := by
    intro d
    induction d with
    | zero => intro k e1 e2 e3; exact ⟨k, ⟨e2, by omega⟩, Or.inl (by omega), e3⟩
    | succ d ih =>
      intro k e1 e2 e3
      by_cases c : xSg b k
      · exact ⟨k, ⟨e2, by omega⟩, Or.inr c, e3⟩
      · exact ih (k + 1) (by omega) (by omega) (fun j j1 j2 => by
          by_cases cj : j = k
          · rw [cj]; exact c
          · exact e3 j j1 (by omega))
  exact key (l - (s + 1)) (s + 1) (by omega) (by omega) (fun j j1 j2 => absurd j1 (by omega))
theorem Nx.uniq {b : Nat → Int} {l s s1 s2 : Nat} (h1 : Nx b l s s1) (h2 : Nx b l s s2) : s1 = s2 := by
  obtain ⟨⟨a1, a2⟩, a3, a4⟩ := h1
  obtain ⟨⟨b1, b2⟩, b3, b4⟩ := h2
  by_cases c : s1 < s2
  · rcases a3 with e | e
    · omega
    · exact absurd e (b4 s1 a1 c)
  · by_cases c2 : s2 < s1
    · rcases b3 with e | e
      · omega
      · exact absurd e (a4 s2 b1 c2)
    · omega
theorem xCt_gap {b : Nat → Int} {s t : Nat} (sg : xSg b s) (h : s < t) (hn : ∀ j, s < j → j < t → ¬ xSg b j) : xCt b t = xCt b s + 1 := by
  have key : ∀ d, s + 1 + d ≤ t → xCt b (s + 1 + d) = xCt b s + 1 := by
    intro d
    induction d with
    | zero => intro _; exact xCt_s sg
    | succ d ih =>
      intro h
      rw [show s + 1 + (d + 1) = (s + 1 + d) + 1 by omega, xCt_n (hn _ (by omega) (by omega))]
      exact ih (by omega)
  have := key (t - s - 1) (by omega)
  rw [show s + 1 + (t - s - 1) = t by omega] at this
  exact this
/-- where the sign at s ends -/
theorem RSg.fin {τ : mMem} {b : Nat → Int} {l s : Nat} (h : RSg τ b l s) (hs : s < l) : ∃ e : Nat, τ 86 5 = (e : Int) ∧ s < e ∧ e ≤ l ∧ (∀ j, s < j → j < e → ¬ xSg b j) ∧ (e < l → ¬ (xLt b e ∧ xLt b (e - 1)) ∧ ¬ (xDg b e ∧ xDg b (e - 1))) := by
  rcases h with ⟨h1, -⟩ | ⟨-, ⟨a1, a2, -, -, a5, -⟩ | ⟨n, n1, n2, n3, -, n5, -⟩ | ⟨n, n1, n2, n3, -, n5, -⟩⟩
  · omega
  · refine ⟨s + 1, a5, by omega, by omega, fun j j1 j2 => absurd j1 (by omega), fun _ => ⟨fun q => ?_, fun q => ?_⟩⟩
    · rw [show s + 1 - 1 = s by omega] at q; exact a1 q.2
    · rw [show s + 1 - 1 = s by omega] at q; exact a2 q.2
  · have lst := n2 (n - 1) (by omega)
    rw [show s + (n - 1) = s + n - 1 by omega] at lst
    refine ⟨s + n, n5, by omega, by omega, fun j j1 j2 q => ?_, fun h => ⟨fun q => ?_, fun q => ?_⟩⟩
    · have k1 := n2 (j - s) (by omega)
      have k2 := n2 (j - s - 1) (by omega)
      rw [show s + (j - s) = j by omega] at k1
      rw [show s + (j - s - 1) = j - 1 by omega] at k2
      exact q.2.1 ⟨k1, by omega, k2⟩
    · rcases n3 with e | e
      · omega
      · exact e q.1
    · have := q.2; omega
  · have lst := n2 (n - 1) (by omega)
    rw [show s + (n - 1) = s + n - 1 by omega] at lst
    refine ⟨s + n, n5, by omega, by omega, fun j j1 j2 q => ?_, fun h => ⟨fun q => ?_, fun q => ?_⟩⟩
    · have k1 := n2 (j - s) (by omega)
      have k2 := n2 (j - s - 1) (by omega)
      rw [show s + (j - s) = j by omega] at k1
      rw [show s + (j - s - 1) = j - 1 by omega] at k2
      exact q.2.2 ⟨k1, by omega, k2⟩
    · have := q.2; omega
    · rcases n3 with e | e
      · omega
      · exact e q.1
/-- what stays as it is while the reference reads -/
def RTx (τ : mMem) (b : Nat → Int) (l : Nat) : Prop := l ≤ 1600 ∧ τ 86 2 = (l : Int) ∧ ∀ j, j < l → τ 87 j = b j ∧ 0 ≤ b j ∧ b j ≤ 255
theorem RTx.fa {τ τ' : mMem} {b : Nat → Int} {l : Nat} (h : RTx τ b l) (f : FA τ' τ) : RTx τ' b l := ⟨h.1, by rw [f.2 2 (by decide) (by decide) (by decide) (by decide) (by decide) (by decide)]; exact h.2.1, fun j hj => by rw [f.1 87 (by decide)]; exact h.2.2 j hj⟩
theorem r_next {F l s : Nat} {τ : mMem} {b : Nat → Int} (hF : 2000 ≤ F) (hx : RTx τ b l) (hs : s < l) (h : RSg τ b l s) : ∃ (s' : Nat) (τ' : mMem), g_X12_ahead F τ = some (0, τ') ∧ FA τ' τ ∧ Nx b l s s' ∧ RSg τ' b l s' := by
  obtain ⟨e, e1, e2, e3, e4, e5⟩ := h.fin hs
  obtain ⟨s', τ', t1, t2, t3, t4, t5⟩ := r_ahead (F := F) (e := e) (l := l) (τ := τ) (b := b) hF hx.1 e3 hx.2.1 e1 hx.2.2
  refine ⟨s', τ', t1, t2, ⟨⟨by omega, t3.2⟩, ?_, fun j j1 j2 => ?_⟩, t5⟩
  · rcases t5 with ⟨h1, -⟩ | ⟨⟨h1, h2, -⟩, -⟩
    · exact Or.inl h1
    · refine Or.inr ⟨h2, fun q => ?_, fun q => ?_⟩
      · by_cases c : s' = e
        · rw [c] at q; exact (e5 (by omega)).1 ⟨q.1, q.2.2⟩
        · have := t4 (s' - 1) (by omega) (by omega)
          have := q.2.2
          omega
      · by_cases c : s' = e
        · rw [c] at q; exact (e5 (by omega)).2 ⟨q.1, q.2.2⟩
        · have := t4 (s' - 1) (by omega) (by omega)
          have := q.2.2
          omega
  · by_cases c : j < e
    · exact e4 j j1 c
    · exact fun q => q.1 (t4 j (by omega) j2)
theorem RSg.bad {τ : mMem} {b : Nat → Int} {l s k : Nat} (h : RSg τ b l s) (hs : s < l) (hk : k < l) (w : xWrg b k s) : τ 86 12 = (k : Int) := by
  rcases h with ⟨h1, -⟩ | ⟨-, ⟨a1, a2, -, -, -, -⟩ | ⟨n, n1, n2, n3, -, -, -, n8⟩ | ⟨n, n1, n2, n3, -, -, -, n8⟩⟩
  · omega
  · rcases w with ⟨w1, w2⟩ | ⟨w1, w2, w3⟩ | ⟨w1, w2, w3⟩
    · rcases w2.1 with q | q
      · exact absurd q a1
      · exact absurd q a2
    · exact absurd (w3 0 (by omega)) a1
    · exact absurd (w3 0 (by omega)) a2
  · have l0 := n2 0 (by omega)
    rw [show s + 0 = s by omega] at l0
    rcases w with ⟨w1, w2⟩ | ⟨w1, w2, w3⟩ | ⟨w1, w2, w3⟩
    · rw [n8, if_pos w2, w1]
    · rw [n8, if_neg w1, if_pos, w2]
      by_cases c : 6 < n
      · exact c
      · exfalso
        rcases n3 with e | e
        · omega
        · exact e (w3 n (by omega))
    · have := w3 0 (by omega)
      rw [show s + 0 = s by omega] at this
      omega
  · have l0 := n2 0 (by omega)
    rw [show s + 0 = s by omega] at l0
    rcases w with ⟨w1, w2⟩ | ⟨w1, w2, w3⟩ | ⟨w1, w2, w3⟩
    · rw [n8, if_pos w2, w1]
    · have := w3 0 (by omega)
      rw [show s + 0 = s by omega] at this
      omega
    · rw [n8, if_neg w1, if_pos, w2]
      by_cases c : 4 < n
      · exact c
      · exfalso
        rcases n3 with e | e
        · omega
        · exact e (w3 n (by omega))
/-- the class: the sign at s is at hand -/
def Lx (σ : mMem) (b : Nat → Int) (l s : Nat) : Prop := LexG σ b l ∨ ∃ k sb, LexB σ b l k sb ∧ s < sb
def CTk (σ : mMem) (b : Nat → Int) (l s : Nat) : Prop := (l ≤ 1600 ∧ σ 1 1 = (l : Int)) ∧ σ 14 10 = 0 ∧ σ 14 6 = (xCt b s : Int) ∧ Lx σ b l s ∧ σ 14 8 = (s : Int) ∧ ((s = l ∧ σ 14 7 = 0 ∧ σ 14 9 = 0) ∨ ((s < l ∧ xSg b s) ∧ σ 14 7 = σ 16 (xCt b s) ∧ σ 14 9 = σ 18 (xCt b s)))
/-- both see the same sign -/
def Vw (σ τ : mMem) : Prop := σ 14 8 = τ 86 4 ∧ τ 86 12 = -1 ∧ ((σ 14 7 = 0 ∧ σ 14 9 = 0 ∧ τ 86 3 = 0) ∨ (σ 14 7 = 1 ∧ τ 86 3 = 1 ∧ NmR (σ 14 9) (τ 86 7) ∧ ∀ k, k < 28 → ¬ xOW k = τ 86 7) ∨ (∃ k : Nat, k < 28 ∧ σ 14 7 = 2 ∧ σ 14 9 = (k : Int) ∧ τ 86 3 = 1 ∧ τ 86 7 = xOW k) ∨ (σ 14 7 = 3 ∧ τ 86 3 = 2 ∧ τ 86 6 = σ 14 9 ∧ 0 ≤ σ 14 9 ∧ σ 14 9 ≤ 9999) ∨ (σ 14 7 = 4 ∧ τ 86 3 = 3 ∧ τ 86 6 = σ 14 9 ∧ 0 ≤ σ 14 9 ∧ σ 14 9 ≤ 255))
theorem CTk.vw {σ τ : mMem} {b : Nat → Int} {l s : Nat} (hc : CTk σ b l s) (hx : RTx τ b l) (hr : RSg τ b l s) : Vw σ τ := by
  obtain ⟨-, c1, c2, c3, c4, c5⟩ := hc
  rcases c5 with ⟨e1, e2, e3⟩ | ⟨⟨e1, e2⟩, e3, e4⟩
  · rcases hr with ⟨r1, r2, r3, r4, r5⟩ | ⟨⟨r1, -⟩, -⟩
    · exact ⟨by rw [c4, r3, e1], r5, Or.inl ⟨e2, e3, r2⟩⟩
    · omega
  · have T : TokM σ b s (xCt b s) l := by
      rcases c3 with g | ⟨k, sb, g, g2⟩
      · exact g.2 s e1 e2
      · exact g.2.2.2.1 s g2 e2
    obtain ⟨-, t2, t3⟩ := T
    have bs := hx.2.2 s e1
    rcases hr with ⟨r1, -⟩ | ⟨⟨-, -, r4⟩, r⟩
    · omega
    refine ⟨by rw [c4, r4], ?_⟩
    rcases r with ⟨a1, a2, a3, a4, -, a6⟩ | ⟨n, n1, n2, n3, n4, -, n6, n7⟩ | ⟨n, n1, n2, n3, n4, -, n6, n7⟩
    · refine ⟨a6, Or.inr (Or.inr (Or.inr (Or.inr ?_)))⟩
      rcases t3 with ⟨-, -, k1, k2⟩ | ⟨m, m1, m2, -⟩ | ⟨m, m1, m2, -⟩
      · rw [e3, e4, k1, k2]
        exact ⟨rfl, a3, a4, bs.2⟩
      · exact absurd (m2 0 (by omega)) a1
      · exact absurd (m2 0 (by omega)) a2
    · have l0 := n2 0 (by omega)
      rw [show s + 0 = s by omega] at l0
      rcases t3 with ⟨k1, -⟩ | ⟨m, m1, m2, m3, m4⟩ | ⟨m, m1, m2, -⟩
      · exact absurd l0 k1
      · have mn : m = n := by
          by_cases c : m < n
          · rcases m3 with e | e
            · omega
            · exact absurd (n2 m c) e
          · by_cases c2 : n < m
            · rcases n3 with e | e
              · omega
              · exact absurd (m2 n c2) e
            · omega
        subst mn
        refine ⟨by rw [n7, if_neg t2, if_neg (by omega)], ?_⟩
        rw [show min m 6 = m by omega] at n6
        have nm := run_nm (b := b) (s := s) (n := m) ⟨m1.1, m1.2.1⟩ m2
        rcases m4 with ⟨k1, k2, k3⟩ | ⟨k, k1, k2, k3, k4⟩
        · refine Or.inr (Or.inl ⟨by rw [e3]; exact k2, n4, by rw [e4, k3, n6]; exact nm, fun k hk e => k1 k hk (((own_nm k hk).inj nm).mpr (by rw [e, n6]))⟩)
        · exact Or.inr (Or.inr (Or.inl ⟨k, k1, by rw [e3]; exact k3, by rw [e4]; exact k4, n4, by rw [n6]; exact (((own_nm k k1).inj nm).mp k2).symm⟩))
      · have := m2 0 (by omega)
        rw [show s + 0 = s by omega] at this
        omega
    · have l0 := n2 0 (by omega)
      rw [show s + 0 = s by omega] at l0
      rcases t3 with ⟨-, k1, -⟩ | ⟨m, m1, m2, -⟩ | ⟨m, m1, m2, m3, m4, m5⟩
      · exact absurd l0 k1
      · have := m2 0 (by omega)
        rw [show s + 0 = s by omega] at this
        omega
      · have mn : m = n := by
          by_cases c : m < n
          · rcases m3 with e | e
            · omega
            · exact absurd (n2 m c) e
          · by_cases c2 : n < m
            · rcases n3 with e | e
              · omega
              · exact absurd (m2 n c2) e
            · omega
        subst mn
        refine ⟨by rw [n7, if_neg t2, if_neg (by omega)], Or.inr (Or.inr (Or.inr (Or.inl ?_)))⟩
        rw [show min m 4 = m by omega] at n6
        have := xNu_b m1.2.1 m2
        rw [e3, e4, m4, m5]
        exact ⟨rfl, n4, n6, this⟩
