/-! LAYER 2: found -/
/-- what the reference's look for black needs of a memory -/
def RF0 (σ : mMem) (p n : Nat) (τ0 : mMem) : Prop := PlR σ p τ0 ∧ τ0 111 0 = σ 20 5 ∧ (∀ j, j < n → BEq (cB σ 21 j) (rB τ0 0 j)) ∧ ∀ j, j < n → 0 ≤ τ0 112 j ∧ τ0 112 j ≤ 80
theorem RF0.pl {σ τ0 τ : mMem} {p n : Nat} (h : RF0 σ p n τ0) (f : ∀ q, q ≠ 121 → τ q = τ0 q) : PlR σ p τ := h.1.same (fun q q1 q2 => f q (by omega)) (by rw [f 86 (by decide)])
/-- one layer of the reference -/
theorem zr_lay {F p n b : Nat} {σ τ0 τ : mMem} {a : Nat → Int} {d : Int} (hF : 2000 ≤ F) (q : QC σ p n (σ 20 5) (σ 20 4) 0 (cB σ 21)) (hb : b < n) (h0 : RF0 σ p n τ0) (f0 : ∀ q, q ≠ 121 → τ q = τ0 q) (hd : 0 ≤ d ∧ d ≤ 323) (ht : ∀ s, s < 324 → τ 121 s = a s) (ha : ∀ s, s < 324 → a s = -1 ∨ (0 ≤ a s ∧ a s ≤ d)) (fl : ∀ s, s < 324 → ¬ a s = -1 → sOn (σ p 9) (σ p 10) ((s / 4 % 9 : Nat) : Int) ((s / 36 : Nat) : Int)) : ((∃ s, s < 324 ∧ a s = d ∧ xBk (σ p 9) (σ p 10) (σ (p + 1)) (σ 20 5) s) → ∀ g, g_X12_found_h51 F (g + 1) (b : Int) d τ = some (d, τ)) ∧ ((∀ s, s < 324 → a s = d → ¬ xBk (σ p 9) (σ p 10) (σ (p + 1)) (σ 20 5) s) → ∃ τ', (∀ g, g_X12_found_h51 F (g + 1) (b : Int) d τ = g_X12_found_h51 F g (b : Int) (d + 1) τ') ∧ (∀ q, q ≠ 121 → τ' q = τ0 q) ∧ RSX τ' a d (fun t => ∃ s, s < 324 ∧ a s = d ∧ xE (σ p 9) (σ p 10) (cB σ 21) n b s t)) := by
  have ha' : ∀ s, s < 324 → -1 ≤ a s ∧ a s ≤ 400 := fun s hs => by have := ha s hs; omega
  obtain ⟨z1, z2⟩ := zr_60 (F := F) (p := p) (n := n) (b := b) (σ := σ) (τ := τ) (a := a) (d := d) q (h0.pl f0) (by rw [f0 111 (by decide)]; exact h0.2.1) (by omega) (fun s hs => ⟨ht s hs, ha' s hs⟩) (fun s hs e => fl s hs (by omega)) 324 0 F (by omega) (by omega)
  have head : ∀ g X, g_X12_found_h60 F (g_X12_found_h51 F g) F (b : Int) d 0 τ = X → g_X12_found_h51 F (g + 1) (b : Int) d τ = X := by
    intro g X hX
    conv => lhs; unfold g_X12_found_h51
    exact e_f (by rw [mw_id (by omega) (by omega), mw_id (by omega) (by omega)]; omega) hX
  refine ⟨fun ⟨s, s1, s2, s3⟩ g => head g _ (z1 ⟨s, by omega, s1, s2, s3⟩ _), fun nb => ?_⟩
  obtain ⟨τ', w1, w2, w3⟩ := zr_98 (F := F) (p := p) (n := n) (b := b) (σ := σ) (τ0 := τ0) (a := a) (d := d) hF q hb h0.1 h0.2.2.1 h0.2.2.2 (by omega) ha 324 0 F τ (by omega) (by omega) f0 ⟨fun s hs _ => ht s hs, fun s hs as => Or.inr ⟨fun ⟨s', k1, _⟩ => absurd k1 (by omega), by rw [ht s hs]; exact as⟩⟩
  exact ⟨τ', fun g => head g _ ((z2 (fun s _ s2 s3 => nb s s2 s3) _).trans (w1 _)), w2, w3⟩
/-- nothing is left to be seen -/
theorem zr_none {F p n b : Nat} {σ τ0 : mMem} {a : Nat → Int} (hF : 2000 ≤ F) (q : QC σ p n (σ 20 5) (σ 20 4) 0 (cB σ 21)) (hb : b < n) (h0 : RF0 σ p n τ0) (fl : ∀ s, s < 324 → ¬ a s = -1 → sOn (σ p 9) (σ p 10) ((s / 4 % 9 : Nat) : Int) ((s / 36 : Nat) : Int)) : ∀ (m d g : Nat) (τ : mMem), m + d = 324 → m < g → (∀ q, q ≠ 121 → τ q = τ0 q) → (∀ s, s < 324 → τ 121 s = a s) → (∀ s, s < 324 → a s = -1 ∨ (0 ≤ a s ∧ a s < (d : Int))) → ∃ τ', g_X12_found_h51 F g (b : Int) (d : Int) τ = some (-1, τ') ∧ ∀ q, q ≠ 121 → τ' q = τ0 q := by
  intro m
  induction m with
  | zero =>
    intro d g τ e1 e2 e3 e4 e5
    obtain ⟨g, rfl⟩ : ∃ f, g = f + 1 := ⟨g - 1, by omega⟩
    have : d = 324 := by omega
    subst this
    refine ⟨τ, ?_, e3⟩
    unfold g_X12_found_h51
    exact e_t (by decide) rfl
  | succ m ih =>
    intro d g τ e1 e2 e3 e4 e5
    obtain ⟨g, rfl⟩ : ∃ f, g = f + 1 := ⟨g - 1, by omega⟩
    obtain ⟨-, y2⟩ := zr_lay (F := F) (b := b) (τ := τ) (a := a) (d := (d : Int)) hF q hb h0 e3 (by omega) e4 (fun s hs => by have := e5 s hs; omega) fl
    obtain ⟨τ', w1, w2, w3⟩ := y2 (fun s hs e => absurd e (by have := e5 s hs; omega))
    have e4' : ∀ s, s < 324 → τ' 121 s = a s := fun s hs => by
      by_cases c : a s = -1
      · rcases w3.2 s hs c with ⟨⟨s', k1, k2, _⟩, _⟩ | ⟨-, x⟩
        · exact absurd k2 (by have := e5 s' k1; omega)
        · rw [x, c]
      · exact w3.1 s hs c
    obtain ⟨τ'', t1, t2⟩ := ih (d + 1) g τ' (by omega) (by omega) w2 e4' (fun s hs => by have := e5 s hs; omega)
    refine ⟨τ'', (w1 g).trans ?_, t2⟩
    rw [← t1, show ((d + 1 : Nat) : Int) = (d : Int) + 1 by omega]
theorem j_fd {F p n b : Nat} {σ : mMem} (hF : 2000 ≤ F) (q : QC σ p n (σ 20 5) (σ 20 4) 0 (cB σ 21)) (h3 : σ 20 3 = (p : Int)) (hb : b < n) : ∀ (m d h t : Nat) (a : Nat → Int) (υ : mMem) (f : Nat), m + d = 324 → Cnt υ → (∀ s, s < 324 → υ 27 s = a s) → υ 26 3 = (t : Int) → (∀ j, h ≤ j → j < t → ∃ s : Nat, s < 324 ∧ υ 28 j = (s : Int) ∧ a s = (d : Int)) → (∀ s, s < 324 → a s = (d : Int) → ∃ j, h ≤ j ∧ j < t ∧ υ 28 j = (s : Int)) → (∀ s, s < 324 → a s = -1 ∨ (0 ≤ a s ∧ a s ≤ (d : Int))) → (∀ s, s < 324 → ¬ a s = -1 → sOn (σ p 9) (σ p 10) ((s / 4 % 9 : Nat) : Int) ((s / 36 : Nat) : Int)) → d ≤ h → h ≤ t → 324 < f + h → FQ υ σ → ∃ (x : Int) (σ1 : mMem), g_X0_fewestMoves_h38 F 20 f (b : Int) (h : Int) υ = some (x, σ1) ∧ FQ σ1 σ ∧ ∀ τ0 τ, RF0 σ p n τ0 → (∀ q, q ≠ 121 → τ q = τ0 q) → (∀ s, s < 324 → τ 121 s = a s) → ∀ g, m < g → ∃ τ', g_X12_found_h51 F g (b : Int) (d : Int) τ = some (x, τ') ∧ ∀ q, q ≠ 121 → τ' q = τ0 q := by
  have h9 := q.2.1.1
  have h10 := q.2.1.2.1
  have empty : ∀ (m d h t : Nat) (a : Nat → Int) (υ : mMem) (f : Nat), m + d = 324 → Cnt υ → υ 26 3 = (t : Int) → (∀ s, s < 324 → a s = (d : Int) → ∃ j, h ≤ j ∧ j < t ∧ υ 28 j = (s : Int)) → (∀ s, s < 324 → a s = -1 ∨ (0 ≤ a s ∧ a s ≤ (d : Int))) → (∀ s, s < 324 → ¬ a s = -1 → sOn (σ p 9) (σ p 10) ((s / 4 % 9 : Nat) : Int) ((s / 36 : Nat) : Int)) → h = t → 324 < f + h → FQ υ σ → ∃ (x : Int) (σ1 : mMem), g_X0_fewestMoves_h38 F 20 f (b : Int) (h : Int) υ = some (x, σ1) ∧ FQ σ1 σ ∧ ∀ τ0 τ, RF0 σ p n τ0 → (∀ q, q ≠ 121 → τ q = τ0 q) → (∀ s, s < 324 → τ 121 s = a s) → ∀ g, m < g → ∃ τ', g_X12_found_h51 F g (b : Int) (d : Int) τ = some (x, τ') ∧ ∀ q, q ≠ 121 → τ' q = τ0 q := by
    intro m d h t a υ f e1 c1 c3 c5 c6 c7 c8 c9 c10
    subst c8
    have cr := c1.rng
    obtain ⟨f, rfl⟩ : ∃ k, f = k + 1 := ⟨f - 1, by omega⟩
    refine ⟨-1, υ, ?_, c10, fun τ0 τ h0 f0 ht g hg => zr_none hF q hb h0 c7 m d g τ e1 hg f0 ht (fun s hs => ?_)⟩
    · unfold g_X0_fewestMoves_h38 g_X0_fewestMoves_b221
      rw [c3]
      exact e_t (Int.le_refl _) rfl
    · rcases c6 s hs with k | k
      · exact Or.inl k
      · refine Or.inr ⟨k.1, ?_⟩
        by_cases e : a s = (d : Int)
        · obtain ⟨j, j1, j2, -⟩ := c5 s hs e
          omega
        · omega
  intro m
  induction m with
  | zero =>
    intro d h t a υ f e1 c1 c2 c3 c4 c5 c6 c7 c8 c8' c9 c10
    have cr := c1.rng
    exact empty 0 d h t a υ f e1 c1 c3 c5 c6 c7 (by omega) c9 c10
  | succ m ih =>
    intro d h t a υ f e1 c1 c2 c3 c4 c5 c6 c7 c8 c8' c9 c10
    have cr := c1.rng
    by_cases ct : h = t
    · exact empty (m + 1) d h t a υ f e1 c1 c3 c5 c6 c7 ct c9 c10
    · have ha' : ∀ s, s < 324 → -1 ≤ a s ∧ a s ≤ 400 := fun s hs => by have := c6 s hs; omega
      have ps0 : PSX υ a (d : Int) t (υ 28) (fun t' => ∃ j s : Nat, h ≤ j ∧ j < h ∧ υ 28 j = (s : Int) ∧ xE (σ p 9) (σ p 10) (cB σ 21) n b s t') := ⟨c1, fun s hs _ => c2 s hs, fun s hs as => Or.inr ⟨fun ⟨j, s', j1, j2, _⟩ => absurd j1 (by omega), by rw [c2 s hs]; exact as⟩, fun j j1 j2 => absurd j1 (by omega), fun s hs as ⟨j, s', j1, j2, _⟩ => absurd j1 (by omega), fun _ _ => rfl, by omega⟩
      obtain ⟨g1, g2⟩ := zc_seg (F := F) (p := p) (n := n) (b := b) (h := h) (t0 := t) (σ := σ) (a := a) (d := (d : Int)) (Q := υ 28) hF q h3 hb (by omega) ha' c4 (t - h) h υ (by omega) (by omega) c10 ps0
      obtain ⟨f', hf'⟩ : ∃ f', f = f' + (t - h) := ⟨f - (t - h), by omega⟩
      by_cases bk : ∃ s, s < 324 ∧ a s = (d : Int) ∧ xBk (σ p 9) (σ p 10) (σ (p + 1)) (σ 20 5) s
      · obtain ⟨s, s1, s2, s3⟩ := bk
        obtain ⟨j, j1, j2, j3⟩ := c5 s s1 s2
        obtain ⟨σ', w1, w2⟩ := g1 ⟨j, s, j1, j2, j3, s3⟩
        refine ⟨(d : Int), σ', by rw [hf']; exact w2 f', w1, fun τ0 τ h0 f0 ht g hg => ?_⟩
        obtain ⟨g, rfl⟩ : ∃ k, g = k + 1 := ⟨g - 1, by omega⟩
        obtain ⟨y1, -⟩ := zr_lay (F := F) (b := b) (τ := τ) (a := a) (d := (d : Int)) hF q hb h0 f0 (by omega) ht c6 c7
        exact ⟨τ, y1 ⟨s, s1, s2, s3⟩ g, f0⟩
      · obtain ⟨υ', w1, w2, w3⟩ := g2 (fun j s j1 j2 j3 k => by
          obtain ⟨s', s1, s2, s3⟩ := c4 j j1 j2
          have : s' = s := by omega
          subst this
          exact bk ⟨s', s1, s3, k⟩)
        have Xi : ∀ t', (∃ j s : Nat, h ≤ j ∧ j < t ∧ υ 28 j = (s : Int) ∧ xE (σ p 9) (σ p 10) (cB σ 21) n b s t') ↔ (∃ s, s < 324 ∧ a s = (d : Int) ∧ xE (σ p 9) (σ p 10) (cB σ 21) n b s t') := fun t' => by
          constructor
          · rintro ⟨j, s, j1, j2, j3, j4⟩
            obtain ⟨s', s1, s2, s3⟩ := c4 j j1 j2
            have : s' = s := by omega
            subst this
            exact ⟨s', s1, s3, j4⟩
          · rintro ⟨s, s1, s2, s3⟩
            obtain ⟨j, j1, j2, j3⟩ := c5 s s1 s2
            exact ⟨j, s, j1, j2, j3, s3⟩
        have w3' := w3.congr (fun t' _ => Xi t')
        obtain ⟨v1, v2, v3, v4, v5, v6, v7⟩ := w3'
        have cr' := v1.rng
        obtain ⟨T, hT⟩ : ∃ T : Nat, υ' 26 3 = (T : Int) := ⟨(υ' 26 3).toNat, by omega⟩
        have d1 : ((d + 1 : Nat) : Int) = (d : Int) + 1 := by omega
        obtain ⟨x, σ1, t1, t2, t3⟩ := ih (d + 1) t T (υ' 27) υ' f' (by omega) v1 (fun _ _ => rfl) hT (fun j j1 j2 => by
            obtain ⟨s, s1, s2, s3, s4⟩ := v4 j j1 (by omega)
            refine ⟨s, s1, s2, ?_⟩
            rcases v3 s s1 s3 with ⟨-, k⟩ | ⟨k, -⟩
            · rw [k, d1]
            · exact absurd s4 k) (fun s hs e => by
            have as : a s = -1 := by
              by_cases c : a s = -1
              · exact c
              · rw [v2 s hs c] at e
                have := c6 s hs
                omega
            rcases v3 s hs as with ⟨k, -⟩ | ⟨-, k⟩
            · obtain ⟨j, j1, j2, j3⟩ := v5 s hs as k
              exact ⟨j, j1, by omega, j3⟩
            · omega) (fun s hs => by
            by_cases c : a s = -1
            · rcases v3 s hs c with ⟨-, k⟩ | ⟨-, k⟩ <;> omega
            · rw [v2 s hs c]
              have := c6 s hs
              omega) (fun s hs e => by
            by_cases c : a s = -1
            · rcases v3 s hs c with ⟨⟨s', k1, k2, k3⟩, -⟩ | ⟨-, k⟩
              · exact xE_fl h9.2 h10.2 (c7 s' k1 (by omega)) k3
              · exact absurd k e
            · exact c7 s hs c) (by omega) (by omega) (by omega) w2
        refine ⟨x, σ1, by rw [hf', w1 f']; exact t1, t2, fun τ0 τ h0 f0 ht g hg => ?_⟩
        obtain ⟨g, rfl⟩ : ∃ k, g = k + 1 := ⟨g - 1, by omega⟩
        obtain ⟨-, y2⟩ := zr_lay (F := F) (b := b) (τ := τ) (a := a) (d := (d : Int)) hF q hb h0 f0 (by omega) ht c6 c7
        obtain ⟨τ', z1, z2, z3⟩ := y2 (fun s s1 s2 k => bk ⟨s, s1, s2, k⟩)
        obtain ⟨τ'', u1, u2⟩ := t3 τ0 τ' h0 z2 (fun s hs => by
          by_cases c : a s = -1
          · rcases z3.2 s hs c with ⟨k1, k2⟩ | ⟨k1, k2⟩
            · rcases v3 s hs c with ⟨-, e⟩ | ⟨e, -⟩
              · rw [k2, e]
              · exact absurd k1 e
            · rcases v3 s hs c with ⟨e, -⟩ | ⟨-, e⟩
              · exact absurd e k1
              · rw [k2, e]
          · rw [z3.1 s hs c, v2 s hs c]) g (by omega)
        refine ⟨τ'', (z1 g).trans ?_, u2⟩
        rw [← u1, d1]
