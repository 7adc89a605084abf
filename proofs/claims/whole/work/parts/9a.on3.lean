/-! LAYER 2: on, the boxes -/
def FW (υ σ : mMem) : Prop := ∀ q, ¬ (79 ≤ q ∧ q ≤ 84) → υ q = σ q
def FX (τ τ0 : mMem) : Prop := (∀ q, ¬ (112 ≤ q ∧ q ≤ 116) → τ q = τ0 q) ∧ ∀ q, 112 ≤ q → q ≤ 116 → ∀ j, (j < 6 ∨ 12 ≤ j) → τ q j = τ0 q j
def CB (υ σ : mMem) (b : Nat → Int) (n k : Nat) : Prop := ∀ j, j < n → ∀ f, f < 9 → cB υ 80 j f = if j < k then xNw b (cB σ 21) j f else cB σ 21 j f
theorem j_rb {F p n l : Nat} {σ : mMem} {b : Nat → Int} (hF : 2000 ≤ F) (hn : n ≤ 6) (hp : p = 3 ∨ p = 8) (h20 : σ 20 3 = (p : Int)) (h11 : σ p 11 = (n : Int)) (hl : l = 4 + 8 * n) (h1 : σ 1 1 = (l : Int)) (h2 : ∀ j, j < l → σ 2 j = b j) (hT : Tp b l) (h9 : 0 ≤ σ p 9 ∧ σ p 9 ≤ 9) (h10 : 0 ≤ σ p 10 ∧ σ p 10 ≤ 9) : ∀ (d k fuel : Nat) (υ : mMem), d + k = n → d + 1 < fuel → FW υ σ → υ 79 3 = (p : Int) → CB υ σ b n k → (∀ j, j < k → okB (σ p 9) (σ p 10) b j) → ∃ (v : Int) (υ' : mMem), (v = 0 ∨ v = 1) ∧ g_X4_readInto_h137 F 20 fuel 1 (k : Int) υ = g_X4_readInto_b169 F 20 v υ' ∧ FW υ' σ ∧ υ' 79 = υ 79 ∧ (v = 1 → CB υ' σ b n n ∧ ∀ j, j < n → okB (σ p 9) (σ p 10) b j) ∧ ∀ τ0 τ, PlR σ p τ0 → (∀ j, j < l → τ0 87 j = b j) → FX τ τ0 → (∀ j, j < k → Bx τ b j) → ∃ τ', g_X12_comesOn_h128 F fuel (k : Int) τ = some (v, τ') ∧ FX τ' τ0 ∧ (v = 1 → ∀ j, j < n → Bx τ' b j) := by
  intro d
  induction d with
  | zero =>
    intro k fuel υ g1 g2 g3 g4 g5 g6
    obtain ⟨f, rfl⟩ : ∃ f, fuel = f + 1 := ⟨fuel - 1, by omega⟩
    have ek : k = n := by omega
    subst ek
    refine ⟨1, υ, Or.inr rfl, ?_, g3, rfl, fun _ => ⟨g5, g6⟩, fun τ0 τ hR _ hx hb => ⟨τ, ?_, hx, fun _ => hb⟩⟩
    · conv => lhs; unfold g_X4_readInto_h137
      rw [g3 20 (by decide), h20, show ((p : Int)).toNat = p by omega, g3 p (by omega), h11]
      exact e_f (by decide) (e_t (by omega) (e_t (Int.le_refl _) rfl))
    · have b13 := hR.1
      unfold g_X12_comesOn_h128
      rw [hx.1 86 (by decide), mw_id (z := τ0 86 13) (by omega) (by omega), hx.1 91 (by decide), hR.2.2.2.1, h11]
      exact e_t (by omega) (e_t (Int.le_refl _) (e_t (by decide) rfl))
  | succ d ih =>
    intro k fuel υ g1 g2 g3 g4 g5 g6
    obtain ⟨f, rfl⟩ : ∃ f, fuel = f + 1 := ⟨fuel - 1, by omega⟩
    have kn : k < n := by omega
    have up : υ p = σ p := g3 p (by omega)
    obtain ⟨υ1, a1, a2, a3, a4⟩ := zc_rb (F := F) (p := p) (n := n) (k := k) (l := l) (υ := υ) (b := b) hF hn kn hp g4 hl (by rw [g3 1 (by decide)]; exact h1) (fun j hj => by rw [g3 2 (by decide)]; exact h2 j hj) hT (by rw [up]; exact h9) (by rw [up]; exact h10) (fun j hj => by
      rw [g5 j (by omega) 0 (by decide), g5 j (by omega) 1 (by decide), if_pos hj, if_pos hj]
      exact ⟨rfl, rfl⟩)
    rw [up] at a1 a4
    have f1 : FW υ1 σ := fun q hq => by rw [a2 q (by omega), g3 q hq]
    have hd : ∀ X, g_X4_readInto_h137 F 20 f (mb (okB (σ p 9) (σ p 10) b k)) ((k : Int) + 1) υ1 = X → g_X4_readInto_h137 F 20 (f + 1) 1 (k : Int) υ = X := by
      intro X hX
      conv => lhs; unfold g_X4_readInto_h137
      rw [g3 20 (by decide), h20, show ((p : Int)).toNat = p by omega, up, h11]
      exact e_f (by decide) (e_t (by omega) (e_f (by rw [mw_id (by omega) (by omega), mw_id (by omega) (by omega)]; omega) (e_mob a1 hX)))
    have rd : ∀ τ0 τ, PlR σ p τ0 → (∀ j, j < l → τ0 87 j = b j) → FX τ τ0 → (∀ j, j < k → Bx τ b j) → ∃ τ1, (FX τ1 τ0 ∧ (∀ j, j < k → Bx τ1 b j) ∧ (okB (σ p 9) (σ p 10) b k → Bx τ1 b k)) ∧ ∀ X, (if ¬ mw (mb (okB (σ p 9) (σ p 10) b k)) = 0 then ((g_X12_comesOn_h128 F f) ((k : Int) + 1) τ1) else (if mw 0 = 0 ∨ mw 0 = 1 then some (0, τ1) else none)) = X → g_X12_comesOn_h128 F (f + 1) (k : Int) τ = X := by
      intro τ0 τ hR h87 hx hb
      have b13 := hR.1
      obtain ⟨τ1, c1, c2, c3, c4⟩ := zr_rb (F := F) (p := p) (n := n) (k := k) (l := l) (π := σ) (τ := τ) (b := b) hF hn kn (hR.same (fun q q1 q2 => hx.1 q (by omega)) (by rw [hx.1 86 (by decide)])) h9 h10 hl (fun j hj => by rw [hx.1 87 (by decide)]; exact h87 j hj) hT (fun j hj => by
        have ok := (g6 j hj).1
        exact ⟨(hb j hj).1, by omega, by omega⟩)
      refine ⟨τ1, ⟨⟨fun q hq => by rw [c2 q hq]; exact hx.1 q hq, fun q q1 q2 j hj => by rw [c3 q q1 q2 j (by omega)]; exact hx.2 q q1 q2 j hj⟩, fun j hj => ?_, c4⟩, fun X hX => ?_⟩
      · have := hb j hj
        unfold Bx at *
        rw [c3 112 (by decide) (by decide) (6 + j) (by omega), c3 113 (by decide) (by decide) (6 + j) (by omega), c3 114 (by decide) (by decide) (6 + j) (by omega), c3 115 (by decide) (by decide) (6 + j) (by omega), c3 116 (by decide) (by decide) (6 + j) (by omega)]
        exact this
      · unfold g_X12_comesOn_h128
        rw [hx.1 86 (by decide), mw_id (z := τ0 86 13) (by omega) (by omega), hx.1 91 (by decide), hR.2.2.2.1, h11]
        exact e_t (by omega) (e_f (by rw [mw_id (by omega) (by omega), mw_id (by omega) (by omega)]; omega) (e_mob c1 hX))
    by_cases ok : okB (σ p 9) (σ p 10) b k
    · obtain ⟨v, υ', t1, t2, t3, t4, t5, t6⟩ := ih (k + 1) f υ1 (by omega) (by omega) f1 (by rw [a2 79 (by decide)]; exact g4) (fun j hj g hg => by
          by_cases c : j = k
          · subst c
            rw [if_pos (by omega), a4 ok g hg]
            have : ∀ i, cB υ 80 j i = υ 80 (10 * j + i) := fun i => rfl
            unfold xNw
            rcases (by omega : g = 0 ∨ g = 1 ∨ g = 2 ∨ g = 3 ∨ g = 4 ∨ g = 8 ∨ (g = 5 ∨ g = 6 ∨ g = 7)) with rfl | rfl | rfl | rfl | rfl | rfl | h
            · rfl
            · rfl
            · rfl
            · rfl
            · rfl
            · rfl
            · rw [if_neg (by omega), if_neg (by omega), if_neg (by omega), if_neg (by omega), if_neg (by omega), if_neg (by omega), if_neg (by omega), if_neg (by omega), if_neg (by omega), if_neg (by omega), if_neg (by omega), if_neg (by omega), g5 j (by omega) g hg, if_neg (by omega)]
          · have e : cB υ1 80 j g = cB υ 80 j g := a3 (10 * j + g) (by omega)
            rw [e, g5 j hj g hg]
            by_cases c2 : j < k
            · rw [if_pos c2, if_pos (by omega)]
            · rw [if_neg c2, if_neg (by omega)]) (fun j hj => by
          by_cases c : j = k
          · rw [c]; exact ok
          · exact g6 j (by omega))
      refine ⟨v, υ', t1, hd _ ?_, t3, by rw [t4, a2 79 (by decide)], t5, fun τ0 τ hR h87 hx hb => ?_⟩
      · rw [mb_t ok, ← t2, show ((k + 1 : Nat) : Int) = (k : Int) + 1 by omega]
      · obtain ⟨τ1, ⟨y1, y2, y3⟩, y4⟩ := rd τ0 τ hR h87 hx hb
        obtain ⟨τ', z1, z2⟩ := t6 τ0 τ1 hR h87 y1 (fun j hj => by
          by_cases c : j = k
          · rw [c]; exact y3 ok
          · exact y2 j (by omega))
        refine ⟨τ', y4 _ ?_, z2⟩
        rw [mb_t ok, show (k : Int) + 1 = ((k + 1 : Nat) : Int) by omega]
        exact e_t (by decide) z1
    · obtain ⟨f', rfl⟩ : ∃ f', f = f' + 1 := ⟨f - 1, by omega⟩
      refine ⟨0, υ1, Or.inl rfl, hd _ ?_, f1, a2 79 (by decide), fun e => absurd e (by decide), fun τ0 τ hR h87 hx hb => ?_⟩
      · rw [mb_f ok]
        conv => lhs; unfold g_X4_readInto_h137
        exact e_t (by decide) rfl
      · obtain ⟨τ1, ⟨y1, y2, y3⟩, y4⟩ := rd τ0 τ hR h87 hx hb
        refine ⟨τ1, y4 _ ?_, y1, fun e => absurd e (by decide)⟩
        rw [mb_f ok]
        exact e_f (by decide) (e_t (by decide) rfl)
/-- the check of a picture that is fed -/
def xCk (b : Nat → Int) : Nat → Int
  | 0 => 179
  | i + 1 => (5 * xCk b i + b i) % 251
theorem xCk_rng {b : Nat → Int} : ∀ i, 0 ≤ xCk b i ∧ xCk b i ≤ 250
  | 0 => by unfold xCk; omega
  | i + 1 => by unfold xCk; omega
theorem zc_ck {F l m : Nat} {σ : mMem} {b : Nat → Int} (hl : l ≤ 52) (hm : m + 1 = l) (h1 : σ 1 1 = (l : Int)) (h2 : ∀ j, j < l → σ 2 j = b j) (hT : Tp b l) : ∀ (d i fuel : Nat), d + i = m → d < fuel → ∃ f, g_X4_readInto_h33 F 20 fuel (m : Int) (xCk b i) (i : Int) σ = g_X4_readInto_h33 F 20 (f + 1) (m : Int) (xCk b m) (m : Int) σ := by
  intro d
  induction d with
  | zero =>
    intro i fuel e1 e2
    have : i = m := by omega
    subst this
    exact ⟨fuel - 1, by rw [show fuel - 1 + 1 = fuel by omega]⟩
  | succ d ih =>
    intro i fuel e1 e2
    obtain ⟨f, rfl⟩ : ∃ f, fuel = f + 1 := ⟨fuel - 1, by omega⟩
    obtain ⟨f', hf⟩ := ih (i + 1) f (by omega) (by omega)
    have ck := xCk_rng (b := b) i
    have bi := hT.2 i (by omega)
    refine ⟨f', ?_⟩
    rw [← hf]
    conv => lhs; unfold g_X4_readInto_h33
    refine e_f (by rw [mw_id (by omega) (by omega), mw_id (by omega) (by omega)]; omega) (e_mob (zt_at (b := b) (by omega) h1 (h2 i (by omega)) (by omega)) (e_mob (r := xCk b (i + 1)) (σ := σ) ?_ ?_))
    · unfold g_X4_checkedBy
      rw [mw_id (z := 5 * xCk b i + b i) (by omega) (by omega), mw_id (z := 251) (by decide) (by decide), mtmod (by omega)]
      exact e_f (by decide) rfl
    · rw [show ((i + 1 : Nat) : Int) = (i : Int) + 1 by omega]
theorem zr_ck {F l m : Nat} {τ : mMem} {b : Nat → Int} (hl : l ≤ 52) (hm : m + 1 = l) (h2 : ∀ j, j < l → τ 87 j = b j) (hT : Tp b l) : ∀ (d i fuel : Nat), d + i = m → d < fuel → ∃ f, g_X12_comesOn_h48 F fuel (l : Int) (xCk b i) (i : Int) τ = g_X12_comesOn_h48 F (f + 1) (l : Int) (xCk b m) (m : Int) τ := by
  intro d
  induction d with
  | zero =>
    intro i fuel e1 e2
    have : i = m := by omega
    subst this
    exact ⟨fuel - 1, by rw [show fuel - 1 + 1 = fuel by omega]⟩
  | succ d ih =>
    intro i fuel e1 e2
    obtain ⟨f, rfl⟩ : ∃ f, fuel = f + 1 := ⟨fuel - 1, by omega⟩
    obtain ⟨f', hf⟩ := ih (i + 1) f (by omega) (by omega)
    have ck := xCk_rng (b := b) i
    have bi := hT.2 i (by omega)
    refine ⟨f', ?_⟩
    rw [← hf]
    conv => lhs; unfold g_X12_comesOn_h48
    rw [mwN (i := i) (by omega), h2 i (by omega), mw_id (z := 5 * xCk b i + b i) (by omega) (by omega), mw_id (z := 251) (by decide) (by decide), mtmod (by omega)]
    refine e_f (by rw [mw_id (by omega) (by omega), mw_id (by omega) (by omega)]; omega) (e_t (mwR (by omega) (by decide)) (e_f (by decide) (e_let ?_)))
    rw [show ((i + 1 : Nat) : Int) = (i : Int) + 1 by omega]
    rfl
