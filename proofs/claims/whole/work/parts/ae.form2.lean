/-! LAYER 2: kitchen, formulas: the reference's side -/
def rk (a : Int) : Int := if a = 42 then 1 else if a = 41 then 2 else if a = 43 then 3 else if a = 38 ∨ a = 39 ∨ a = 40 then 4 else if a = 31 ∨ a = 32 then 5 else 6
theorem rk_pos (a : Int) : 1 ≤ rk a ∧ rk a ≤ 6 := by
  unfold rk
  repeat' split
  all_goals omega
abbrev isT (k : Int) : Prop := k = 1 ∨ k = 5 ∨ k = 6
theorem r_rank {F : Nat} {τ : mMem} {a : Int} (h : 31 ≤ a ∧ a ≤ 43) : g_X12_rank F a τ = some (rk a, τ) := by
  unfold g_X12_rank g_X12_rank_b48 g_X12_rank_b64 g_X12_rank_b70 rk
  rw [mw_id (z := a) (by omega) (by omega)]
  rcases (by omega : a = 31 ∨ a = 32 ∨ a = 33 ∨ a = 34 ∨ a = 35 ∨ a = 36 ∨ a = 37 ∨ a = 38 ∨ a = 39 ∨ a = 40 ∨ a = 41 ∨ a = 42 ∨ a = 43) with rfl | rfl | rfl | rfl | rfl | rfl | rfl | rfl | rfl | rfl | rfl | rfl | rfl <;> rfl
theorem r_isT {F : Nat} {τ : mMem} {k : Int} (h : 0 ≤ k ∧ k ≤ 6) : g_X12_isTest F k τ = some (mb (isT k), τ) := by
  rcases (by omega : k = 0 ∨ k = 1 ∨ k = 2 ∨ k = 3 ∨ k = 4 ∨ k = 5 ∨ k = 6) with rfl | rfl | rfl | rfl | rfl | rfl | rfl <;> rfl
def nots : List Int → Nat
  | [] => 0
  | a :: t => (if a = 43 then 1 else 0) + nots t
theorem nots_app : ∀ (P S : List Int), nots (P ++ S) = nots P + nots S
  | [], S => by simp [nots]
  | a :: t, S => by
    show (if a = 43 then 1 else 0) + nots (t ++ S) = _
    rw [nots_app t S]
    show _ = (if a = 43 then 1 else 0) + nots t + nots S
    omega
/-- codes that wait for the reference -/
def Pnd (w : Nat → Int) : Nat → List Int → Prop
  | _, [] => True
  | n, a :: t => w n = trc a 0 ∧ Pnd w (n + 1) t
theorem Pnd_cg {w w' : Nat → Int} : ∀ (P : List Int) (n : Nat), Pnd w n P → (∀ j, n ≤ j → j < n + P.length → w' j = w j) → Pnd w' n P
  | [], _, _, _ => trivial
  | a :: t, n, h, e => by
    have l : (a :: t).length = t.length + 1 := rfl
    exact ⟨by rw [e n (by omega) (by omega)]; exact h.1, Pnd_cg t (n + 1) h.2 (fun j j1 j2 => e j (by omega) (by omega))⟩
theorem Pnd_snoc {w : Nat → Int} {c : Int} : ∀ (P : List Int) (n : Nat), Pnd w n P → w (n + P.length) = trc c 0 → Pnd w n (P ++ [c])
  | [], n, _, e => ⟨e, trivial⟩
  | a :: t, n, h, e => by
    have l : (a :: t).length = t.length + 1 := rfl
    exact ⟨h.1, Pnd_snoc t (n + 1) h.2 (by rw [← e, l, show n + 1 + t.length = n + (t.length + 1) by omega])⟩
def Cd (σ τ : mMem) (p i : Nat) (P : List Int) : Prop := ∃ n : Nat, τ 86 29 = (n : Int) ∧ σ p 4 = (n : Int) + (P.length : Int) ∧ n + P.length ≤ 1600 ∧ (∀ j, j < n → srt (τ 100 (1600 * i + j)) (τ 101 (1600 * i + j)) ∧ trc (τ 100 (1600 * i + j)) (τ 101 (1600 * i + j)) = σ (p + 4) j) ∧ Pnd (σ (p + 4)) n P
theorem Cd.cgc {σ σ' τ : mMem} {p i : Nat} {P : List Int} (h : Cd σ τ p i P) (e : σ' p 4 = σ p 4) (e4 : σ' (p + 4) = σ (p + 4)) : Cd σ' τ p i P := by
  unfold Cd at *
  rw [e, e4]
  exact h
theorem Cd.cgr {σ τ τ' : mMem} {p i : Nat} {P : List Int} (h : Cd σ τ p i P) (e : τ' 86 29 = τ 86 29) (e0 : τ' 100 = τ 100) (e1 : τ' 101 = τ 101) : Cd σ τ' p i P := by
  unfold Cd at *
  rw [e, e0, e1]
  exact h
/-- the class writes a code that waits -/
theorem Cd.em {σ σ' τ : mMem} {p i : Nat} {P : List Int} {a : Int} (h : Cd σ τ p i P) (hl : σ p 4 < 1600) (e : σ' = mup (mup σ (p + 4) (σ p 4).toNat (trc a 0)) p 4 (σ p 4 + 1)) : Cd σ' τ p i (P ++ [a]) := by
  obtain ⟨n, h1, h2, h3, h4, h5⟩ := h
  have en : (σ p 4).toNat = n + P.length := by omega
  rw [en] at e
  have low : ∀ j, j ≠ n + P.length → σ' (p + 4) j = σ (p + 4) j := fun j hj => by rw [e, mup_off (by omega), mup_ne (by omega)]
  have ll : (P ++ [a]).length = P.length + 1 := by simp
  refine ⟨n, h1, by rw [e, mup_at rfl rfl, ll]; omega, by omega, fun j hj => by rw [low j (by omega)]; exact h4 j hj, ?_⟩
  refine Pnd_snoc P n (Pnd_cg P n h5 (fun j j1 j2 => low j (by omega))) ?_
  rw [e, mup_off (by omega), mup_at rfl rfl]
/-- the reference's formula: frames, what it holds back -/
def Fr (τ : mMem) (i D o : Nat) (k ph bg bse : Int) (S : List Int) : Prop := (τ 86 37 = (D : Int) + 1 ∧ τ 86 38 = (o : Int) ∧ τ 86 40 = (S.length : Int) ∧ τ 86 30 = (i : Int)) ∧ (τ 103 D = k ∧ τ 104 D = ph ∧ τ 105 D = bg ∧ τ 107 D = bse) ∧ hol (τ 108) S
theorem Fr.cg {τ τ' : mMem} {i D o : Nat} {k ph bg bse : Int} {S : List Int} (h : Fr τ i D o k ph bg bse S) (e : ∀ j, j = 37 ∨ j = 38 ∨ j = 40 ∨ j = 30 → τ' 86 j = τ 86 j) (r : ∀ q, 103 ≤ q → q ≤ 108 → τ' q = τ q) : Fr τ' i D o k ph bg bse S := by
  unfold Fr at *
  rw [e 37 (by decide), e 38 (by decide), e 40 (by decide), e 30 (by decide), r 103 (by decide) (by decide), r 104 (by decide) (by decide), r 105 (by decide) (by decide), r 107 (by decide) (by decide), r 108 (by decide) (by decide)]
  exact h
def FH (τ' τ : mMem) (i D : Nat) : Prop := (∀ q, (q < 86 ∨ (87 ≤ q ∧ q ≤ 99) ∨ q = 102 ∨ 109 ≤ q) → τ' q = τ q) ∧ (∀ j, (j < 3 ∨ j = 10 ∨ j = 11 ∨ (13 ≤ j ∧ j ≤ 28) ∨ (30 ≤ j ∧ j ≤ 36) ∨ 42 ≤ j) → τ' 86 j = τ 86 j) ∧ (∀ q j : Nat, (q = 100 ∨ q = 101) → ((j : Int) < 1600 * (i : Int) + τ 86 29 ∨ 1600 * i + 1600 ≤ j) → τ' q j = τ q j) ∧ (∀ q j, 103 ≤ q → q ≤ 107 → j < D → τ' q j = τ q j) ∧ τ' 106 D = τ 106 D ∧ τ 86 29 ≤ τ' 86 29
theorem FH.rfl' {τ : mMem} {i D : Nat} : FH τ τ i D := ⟨fun _ _ => rfl, fun _ _ => rfl, fun _ _ _ _ => rfl, fun _ _ _ _ _ => rfl, rfl, Int.le_refl _⟩
theorem FH.tr {a b c : mMem} {i D : Nat} (h : FH a b i D) (g : FH b c i D) : FH a c i D := by
  obtain ⟨h1, h2, h3, h4, h5, h6⟩ := h
  obtain ⟨g1, g2, g3, g4, g5, g6⟩ := g
  exact ⟨fun q hq => (h1 q hq).trans (g1 q hq), fun j hj => (h2 j hj).trans (g2 j hj), fun q j hq hj => (h3 q j hq (by omega)).trans (g3 q j hq hj), fun q j q1 q2 hj => (h4 q j q1 q2 hj).trans (g4 q j q1 q2 hj), h5.trans g5, by omega⟩
theorem FH.up {a b : mMem} {i D : Nat} (h : FH a b i (D + 1)) : FH a b i D := ⟨h.1, h.2.1, h.2.2.1, fun q j q1 q2 hj => h.2.2.2.1 q j q1 q2 (by omega), h.2.2.2.1 106 D (by decide) (by decide) (by omega), h.2.2.2.2.2⟩
theorem FR.fh {τ' τ : mMem} {i D : Nat} (h : FR τ' τ) : FH τ' τ i D := ⟨fun q hq => h.1 q (by omega), fun j hj => h.2 j (by omega), fun q j hq _ => by rw [h.1 q (by omega)], fun q j q1 q2 _ => by rw [h.1 q (by omega)], by rw [h.1 106 (by decide)], by rw [h.2 29 (by decide)]; exact Int.le_refl _⟩
theorem FH.u86 {τ' τ : mMem} {i D j : Nat} {z : Int} (h : FH τ' τ i D) (hj : j = 37 ∨ j = 38 ∨ j = 40 ∨ j = 41 ∨ (3 ≤ j ∧ j ≤ 9) ∨ j = 12) : FH (mup τ' 86 j z) τ i D := by
  obtain ⟨h1, h2, h3, h4, h5, h6⟩ := h
  exact ⟨fun q hq => by rw [mup_off (by omega)]; exact h1 q hq, fun x hx => by rw [mup_ne (by omega)]; exact h2 x hx, fun q x hq hx => by rw [mup_off (by omega)]; exact h3 q x hq hx, fun q x q1 q2 hx => by rw [mup_off (by omega)]; exact h4 q x q1 q2 hx, by rw [mup_off (by omega)]; exact h5, by rw [mup_ne (by omega)]; exact h6⟩
theorem FH.urow {τ' τ : mMem} {i D q x : Nat} {z : Int} (h : FH τ' τ i D) (hq : q = 103 ∨ q = 104 ∨ q = 105 ∨ q = 107 ∨ q = 108) (hx : D ≤ x ∨ q = 108) : FH (mup τ' q x z) τ i D := by
  obtain ⟨h1, h2, h3, h4, h5, h6⟩ := h
  exact ⟨fun y hy => by rw [mup_off (by omega)]; exact h1 y hy, fun y hy => by rw [mup_off (by omega)]; exact h2 y hy, fun y w hy hw => by rw [mup_off (by omega)]; exact h3 y w hy hw, fun y w q1 q2 hw => by rw [mup_ne (by omega)]; exact h4 y w q1 q2 hw, by rw [mup_off (by omega)]; exact h5, by rw [mup_off (by omega)]; exact h6⟩
/-- a code is added -/
theorem r_add {F i n : Nat} {τ : mMem} {a v : Int} (hi : i = 0 ∨ i = 1) (h30 : τ 86 30 = (i : Int)) (h29 : τ 86 29 = (n : Int)) (hn : n < 1600) : g_X12_add F a v τ = some (0, mup (mup (mup τ 100 (1600 * i + n) a) 101 (1600 * i + n) v) 86 29 ((n : Int) + 1)) := by
  have e : 1600 * (i : Int) + (n : Int) = ((1600 * i + n : Nat) : Int) := by omega
  unfold g_X12_add
  rw [h30, h29, e, mwN (i := 1600 * i + n) (by omega)]
  refine e_t (mwR (by omega) (by decide)) (e_mem ?_)
  rw [mup_off (o := 100) (q := 86) (by decide), h30, h29, e, mwN (i := 1600 * i + n) (by omega)]
  refine e_t (mwR (by omega) (by decide)) (e_mem ?_)
  rw [mup_off (o := 101) (q := 86) (by decide), mup_off (o := 100) (q := 86) (by decide), h29]
  exact e_mem rfl
def xAdd (τ : mMem) (i n : Nat) (a v : Int) : mMem := mup (mup (mup τ 100 (1600 * i + n) a) 101 (1600 * i + n) v) 86 29 ((n : Int) + 1)
theorem xAdd_off {τ : mMem} {i n q : Nat} {a v : Int} (h : q ≠ 100 ∧ q ≠ 101 ∧ q ≠ 86) : xAdd τ i n a v q = τ q := by
  unfold xAdd
  rw [mup_off h.2.2, mup_off h.2.1, mup_off h.1]
theorem xAdd_86 {τ : mMem} {i n j : Nat} {a v : Int} (h : j ≠ 29) : xAdd τ i n a v 86 j = τ 86 j := by
  unfold xAdd
  rw [mup_ne (by omega), mup_off (by decide), mup_off (by decide)]
theorem xAdd_29 {τ : mMem} {i n : Nat} {a v : Int} : xAdd τ i n a v 86 29 = (n : Int) + 1 := mup_at rfl rfl
theorem xAdd_ne {τ : mMem} {i n q j : Nat} {a v : Int} (hq : q = 100 ∨ q = 101) (h : j ≠ 1600 * i + n) : xAdd τ i n a v q j = τ q j := by
  unfold xAdd
  rw [mup_off (by omega), mup_ne (by omega), mup_ne (by omega)]
theorem xAdd_0 {τ : mMem} {i n : Nat} {a v : Int} : xAdd τ i n a v 100 (1600 * i + n) = a ∧ xAdd τ i n a v 101 (1600 * i + n) = v := by
  unfold xAdd
  exact ⟨by rw [mup_off (by decide), mup_off (by decide), mup_at rfl rfl], by rw [mup_off (by decide), mup_at rfl rfl]⟩
theorem xAdd_fh {τ : mMem} {i n D : Nat} {a v : Int} (hn : n < 1600) (h29 : τ 86 29 = (n : Int)) : FH (xAdd τ i n a v) τ i D := ⟨fun q hq => xAdd_off (by omega), fun j hj => xAdd_86 (by omega), fun q j hq hj => xAdd_ne hq (by omega), fun q j q1 q2 _ => by rw [xAdd_off (by omega)], by rw [xAdd_off (by decide)], by rw [xAdd_29, h29]; omega⟩
/-- what waits is added -/
theorem Cd.pop {σ τ : mMem} {p i : Nat} {P : List Int} {a : Int} (h : Cd σ τ p i (a :: P)) (ha : 30 ≤ a ∧ a ≤ 44) : ∃ n : Nat, τ 86 29 = (n : Int) ∧ n < 1600 ∧ Cd σ (xAdd τ i n a 0) p i P := by
  obtain ⟨n, h1, h2, h3, h4, h5⟩ := h
  have l : (a :: P).length = P.length + 1 := rfl
  refine ⟨n, h1, by omega, n + 1, by rw [xAdd_29]; omega, by rw [h2, l]; omega, by omega, fun j hj => ?_, h5.2⟩
  by_cases c : j = n
  · subst c
    rw [xAdd_0.1, xAdd_0.2]
    exact ⟨Or.inr (Or.inr ha), h5.1.symm⟩
  · rw [xAdd_ne (Or.inl rfl) (by omega), xAdd_ne (Or.inr rfl) (by omega)]
    exact h4 j (by omega)
/-- both write a code -/
theorem Cd.both {σ σ' τ : mMem} {p i : Nat} {a v : Int} (h : Cd σ τ p i []) (hl : σ p 4 < 1600) (e : σ' = mup (mup σ (p + 4) (σ p 4).toNat (trc a v)) p 4 (σ p 4 + 1)) (hs : srt a v) : ∃ n : Nat, τ 86 29 = (n : Int) ∧ n < 1600 ∧ Cd σ' (xAdd τ i n a v) p i [] := by
  obtain ⟨n, h1, h2, h3, h4, h5⟩ := h
  have l : ([] : List Int).length = 0 := rfl
  have en : (σ p 4).toNat = n := by omega
  rw [en] at e
  refine ⟨n, h1, by omega, n + 1, by rw [xAdd_29]; omega, by rw [e, mup_at rfl rfl]; omega, by omega, fun j hj => ?_, trivial⟩
  by_cases c : j = n
  · subst c
    rw [xAdd_0.1, xAdd_0.2, e, mup_off (by omega), mup_at rfl rfl]
    exact ⟨hs, rfl⟩
  · rw [xAdd_ne (Or.inl rfl) (by omega), xAdd_ne (Or.inr rfl) (by omega), e, mup_off (by omega), mup_ne (by omega)]
    exact h4 j (by omega)
/-- where joining stops -/
def Jst (S : List Int) (bse r : Int) : Prop := bse = (S.length : Int) ∨ (bse ≤ (S.length : Int) ∧ ∃ a t, S = a :: t ∧ (31 ≤ a ∧ a ≤ 43) ∧ rk a < r)
theorem Jst.mono {S : List Int} {bse r r' : Int} (h : Jst S bse r) (hr : r ≤ r') : Jst S bse r' := by
  rcases h with h | ⟨h0, a, t, e, h1, h2⟩
  · exact Or.inl h
  · exact Or.inr ⟨h0, a, t, e, h1, by omega⟩
theorem Jst.cons {S : List Int} {bse r r' a : Int} (h : Jst S bse r) (ha : 31 ≤ a ∧ a ≤ 43) (hr : rk a < r') : Jst (a :: S) bse r' := by
  have l : (a :: S).length = S.length + 1 := rfl
  refine Or.inr ⟨?_, a, S, rfl, ha, hr⟩
  rcases h with h | ⟨h0, -⟩ <;> omega
theorem Jst.le {S : List Int} {bse r : Int} (h : Jst S bse r) : bse ≤ (S.length : Int) := by
  rcases h with h | ⟨h0, -⟩ <;> omega
/-- what the sign at hand is, and which is next to come, stays -/
def FK (τ' τ : mMem) : Prop := ∀ j, ((2 ≤ j ∧ j ≤ 9) ∨ j = 12 ∨ j = 41) → τ' 86 j = τ 86 j
theorem FK.tr {a b c : mMem} (h : FK a b) (g : FK b c) : FK a c := fun j hj => (h j hj).trans (g j hj)
theorem Mt.fk {σ τ τ' : mMem} {b : Nat → Int} {l i D : Nat} (h : Mt σ τ b l) (f : FH τ' τ i D) (g : FK τ' τ) : Mt σ τ' b l := h.cg (fun _ _ => rfl) (f.1 87 (by decide)) (fun j hj => g j (by omega))
theorem r_joins {F i D p : Nat} {σ : mMem} {k ph bg bse r : Int} {S : List Int} (hi : i = 0 ∨ i = 1) (hD : D ≤ 15) (hb : 0 ≤ bse) (hr : 1 ≤ r ∧ r ≤ 6) (hs : Jst S bse r) : ∀ (P : List Int) (o fuel : Nat) (τ : mMem), P.length < fuel → P.length + S.length ≤ 400 → o ≤ 100 → Fr τ i D (o + nots P) k ph bg bse (P ++ S) → Cd σ τ p i P → (∀ a, a ∈ P → (31 ≤ a ∧ a ≤ 43) ∧ r ≤ rk a) → ∃ τ', g_X12_joins_h0 F fuel r τ = some (0, τ') ∧ Fr τ' i D o k ph bg bse S ∧ Cd σ τ' p i [] ∧ FH τ' τ i D ∧ FK τ' τ
  | [], o, 0, τ, h, _, _, _, _, _ => absurd h (by simp)
  | [], o, fuel + 1, τ, _, hl, ho, hf, hc, _ => by
    obtain ⟨⟨f1, f2, f3, f4⟩, ⟨f5, f6, f7, f8⟩, f9⟩ := id hf
    refine ⟨τ, ?_, hf, hc, FH.rfl', fun _ _ => rfl⟩
    have hl' : S.length ≤ 400 := by simpa using hl
    have f3' : τ 86 40 = (S.length : Int) := f3
    unfold g_X12_joins_h0 g_X12_joins_b87
    rw [f1, show (D : Int) + 1 - 1 = (D : Int) by omega, mwN (i := D) (by omega), f8, f3', mw_id (z := bse) (by omega) (by have := hs.le; omega), mw_id (z := (S.length : Int)) (by omega) (by omega)]
    refine e_t (mwR (by omega) (by decide)) ?_
    rcases hs with h | ⟨h0, a, t, e, h1, h2⟩
    · exact e_t (by omega) rfl
    · by_cases c : (S.length : Int) ≤ bse
      · exact e_t c rfl
      · have lt : S.length = t.length + 1 := by rw [e]; rfl
        rw [show (S.length : Int) - 1 = ((t.length : Nat) : Int) by omega, mwN (i := t.length) (by omega)]
        refine e_f c (e_t (mwR (by omega) (by decide)) ?_)
        have top : τ 108 t.length = a := by
          have f9' : hol (τ 108) S := f9
          rw [e] at f9'
          exact f9'.1
        rw [top]
        refine e_mob (r_rank h1) (e_t ?_ rfl)
        have := rk_pos a
        rw [mw_id (by omega) (by omega), mw_id (by omega) (by omega)]
        exact h2
  | a :: P, o, 0, τ, h, _, _, _, _, _ => absurd h (by simp)
  | a :: P, o, fuel + 1, τ, hfu, hl, ho, hf, hc, ha => by
    obtain ⟨⟨f1, f2, f3, f4⟩, ⟨f5, f6, f7, f8⟩, f9⟩ := id hf
    have la : (a :: P).length = P.length + 1 := rfl
    have lap : (a :: P ++ S).length = P.length + S.length + 1 := by simp
    have hal := (ha a (List.mem_cons_self ..)).1
    have har := (ha a (List.mem_cons_self ..)).2
    obtain ⟨n, n1, n2, n3⟩ := hc.pop (by omega)
    have hle := hs.le
    have nn : nots (a :: P) = (if a = 43 then 1 else 0) + nots P := rfl
    obtain ⟨τ1, e1⟩ : ∃ y, y = mup τ 86 40 ((P.length + S.length : Nat) : Int) := ⟨_, rfl⟩
    have n1' : τ1 86 29 = (n : Int) := by rw [e1, mup_ne (by omega)]; exact n1
    have f4' : τ1 86 30 = (i : Int) := by rw [e1, mup_ne (by omega)]; exact f4
    have add := r_add (F := F) (a := a) (v := 0) hi f4' n1' n2
    obtain ⟨τ2, e2⟩ : ∃ y, y = xAdd τ1 i n a 0 := ⟨_, rfl⟩
    have v40 : τ2 86 40 = ((P.length + S.length : Nat) : Int) := by rw [e2, xAdd_86 (by decide), e1, mup_at rfl rfl]
    have r108 : τ2 108 = τ 108 := by rw [e2, xAdd_off (by decide), e1, mup_off (by decide)]
    have top : τ 108 (P.length + S.length) = a := by
      have : (P ++ S).length = P.length + S.length := by simp
      rw [← this]
      exact f9.1
    have c2 : Cd σ τ2 p i P := by
      rw [e2]
      have : Cd σ (xAdd τ i n a 0) p i P := n3
      refine this.cgr ?_ ?_ ?_
      · rw [xAdd_29, xAdd_29]
      · funext j
        by_cases cj : j = 1600 * i + n
        · rw [cj, xAdd_0.1, xAdd_0.1]
        · rw [xAdd_ne (Or.inl rfl) cj, xAdd_ne (Or.inl rfl) cj, e1, mup_off (by decide)]
      · funext j
        by_cases cj : j = 1600 * i + n
        · rw [cj, xAdd_0.2, xAdd_0.2]
        · rw [xAdd_ne (Or.inr rfl) cj, xAdd_ne (Or.inr rfl) cj, e1, mup_off (by decide)]
    obtain ⟨τ3, e3⟩ : ∃ y, y = (if a = 43 then mup τ2 86 38 (τ2 86 38 - 1) else τ2) := ⟨_, rfl⟩
    have o3 : ∀ q, q ≠ 86 → τ3 q = τ2 q := fun q hq => by
      rw [e3]
      by_cases c : a = 43
      · rw [if_pos c, mup_off hq]
      · rw [if_neg c]
    have s3 : ∀ j, j ≠ 38 → τ3 86 j = τ2 86 j := fun j hj => by
      rw [e3]
      by_cases c : a = 43
      · rw [if_pos c, mup_ne (by omega)]
      · rw [if_neg c]
    have v38 : τ3 86 38 = ((o + nots P : Nat) : Int) := by
      have q : τ2 86 38 = ((o + nots (a :: P) : Nat) : Int) := by rw [e2, xAdd_86 (by decide), e1, mup_ne (by omega)]; exact f2
      rw [e3]
      by_cases c : a = 43
      · rw [if_pos c, mup_at rfl rfl, q, nn, if_pos c]; omega
      · rw [if_neg c, q, nn, if_neg c, Nat.zero_add]
    have w2 : ∀ j, j ≠ 29 → j ≠ 40 → τ2 86 j = τ 86 j := fun j j1 j2 => by rw [e2, xAdd_86 j1, e1, mup_ne (by omega)]
    have p2 : ∀ q, q ≠ 86 → q ≠ 100 → q ≠ 101 → τ2 q = τ q := fun q q1 q2 q3 => by rw [e2, xAdd_off ⟨q2, q3, q1⟩, e1, mup_off q1]
    have lps : (P ++ S).length = P.length + S.length := by simp
    have fr3 : Fr τ3 i D (o + nots P) k ph bg bse (P ++ S) := by
      refine ⟨⟨?_, v38, ?_, ?_⟩, ?_, ?_⟩
      · rw [s3 37 (by decide), w2 37 (by decide) (by decide)]; exact f1
      · rw [s3 40 (by decide), v40, lps]
      · rw [s3 30 (by decide), w2 30 (by decide) (by decide)]; exact f4
      · rw [o3 103 (by decide), o3 104 (by decide), o3 105 (by decide), o3 107 (by decide), p2 103 (by decide) (by decide) (by decide), p2 104 (by decide) (by decide) (by decide), p2 105 (by decide) (by decide) (by decide), p2 107 (by decide) (by decide) (by decide)]
        exact ⟨f5, f6, f7, f8⟩
      · rw [o3 108 (by decide), r108]; exact f9.2
    have c3 : Cd σ τ3 p i P := c2.cgr (s3 29 (by decide)) (o3 100 (by decide)) (o3 101 (by decide))
    obtain ⟨τ', t1, t2, t3, t4, t5⟩ := r_joins (F := F) hi hD hb hr hs P o fuel τ3 (by omega) (by omega) ho fr3 c3 (fun x hx => ha x (List.mem_cons_of_mem _ hx))
    have h1 : FH τ1 τ i D := by rw [e1]; exact FH.rfl'.u86 (by decide)
    have h2 : FH τ2 τ i D := by rw [e2]; exact (xAdd_fh n2 n1').tr h1
    have h3 : FH τ3 τ i D := by
      rw [e3]
      by_cases c : a = 43
      · rw [if_pos c]; exact h2.u86 (by decide)
      · rw [if_neg c]; exact h2
    refine ⟨τ', ?_, t2, t3, t4.tr h3, t5.tr (fun j hj => by rw [s3 j (by omega), w2 j (by omega) (by omega)])⟩
    unfold g_X12_joins_h0
    have f3' : τ 86 40 = ((P.length + S.length + 1 : Nat) : Int) := by rw [f3, lap]
    rw [f1, show (D : Int) + 1 - 1 = (D : Int) by omega, mwN (i := D) (by omega), f8, f3', mw_id (z := bse) (by omega) (by omega), mw_id (z := ((P.length + S.length + 1 : Nat) : Int)) (by omega) (by omega), show ((P.length + S.length + 1 : Nat) : Int) - 1 = ((P.length + S.length : Nat) : Int) by omega, mwN (i := P.length + S.length) (by omega), top]
    refine e_t (mwR (by omega) (by decide)) (e_f (by omega) (e_t (mwR (by omega) (by decide)) (e_mob (r_rank hal) ?_)))
    have rp := rk_pos a
    rw [f3', show ((P.length + S.length + 1 : Nat) : Int) - 1 = ((P.length + S.length : Nat) : Int) by omega, ← e1]
    refine e_f (by rw [mw_id (by omega) (by omega), mw_id (by omega) (by omega)]; omega) (e_mem ?_)
    have v40' : τ1 86 40 = ((P.length + S.length : Nat) : Int) := by rw [e1, mup_at rfl rfl]
    rw [v40', mwN (i := P.length + S.length) (by omega), show τ1 108 = τ 108 by rw [e1, mup_off (by decide)], top]
    refine e_t (mwR (by omega) (by decide)) (e_mob add ?_)
    rw [show mup (mup (mup τ1 100 (1600 * i + n) a) 101 (1600 * i + n) 0) 86 29 ((n : Int) + 1) = τ2 from e2.symm, v40, mwN (i := P.length + S.length) (by omega), r108, top]
    refine e_t (mwR (by omega) (by decide)) ?_
    rw [mw_id (z := a) (by omega) (by omega), show mw 43 = 43 by decide]
    by_cases c : a = 43
    · rw [if_pos c] at e3
      refine e_f (fun q => q c) (e_mem ?_)
      rw [← e3]
      exact t1
    · rw [if_neg c] at e3
      refine e_t c ?_
      rw [← e3]
      exact t1
/-- held back -/
theorem r_hold {F i D o : Nat} {τ : mMem} {k ph bg bse a : Int} {S : List Int} (hl : S.length ≤ 400) (hf : Fr τ i D o k ph bg bse S) : ∃ τ', g_X12_holdsBack F a τ = some (0, τ') ∧ Fr τ' i D o k ph bg bse (a :: S) ∧ FH τ' τ i D ∧ FK τ' τ ∧ (τ' 86 29 = τ 86 29 ∧ τ' 100 = τ 100 ∧ τ' 101 = τ 101) := by
  obtain ⟨⟨f1, f2, f3, f4⟩, f5, f9⟩ := hf
  obtain ⟨τ', e'⟩ : ∃ y, y = mup (mup τ 108 S.length a) 86 40 ((S.length : Int) + 1) := ⟨_, rfl⟩
  have o' : ∀ q, q ≠ 86 → q ≠ 108 → τ' q = τ q := fun q q1 q2 => by rw [e', mup_off q1, mup_off q2]
  have s' : ∀ j, j ≠ 40 → τ' 86 j = τ 86 j := fun j hj => by rw [e', mup_ne (by omega), mup_off (by decide)]
  refine ⟨τ', ?_, ⟨⟨by rw [s' 37 (by decide)]; exact f1, by rw [s' 38 (by decide)]; exact f2, ?_, by rw [s' 30 (by decide)]; exact f4⟩, ?_, ?_⟩, ?_, fun j hj => s' j (by omega), s' 29 (by decide), o' 100 (by decide) (by decide), o' 101 (by decide) (by decide)⟩
  · unfold g_X12_holdsBack
    rw [f3, mwN (i := S.length) (by omega)]
    refine e_t (mwR (by omega) (by decide)) (e_mem ?_)
    rw [mup_off (o := 108) (q := 86) (by decide), f3, ← e']
    rfl
  · rw [e', mup_at rfl rfl]; simp
  · rw [o' 103 (by decide) (by decide), o' 104 (by decide) (by decide), o' 105 (by decide) (by decide), o' 107 (by decide) (by decide)]
    exact f5
  · have e8 : τ' 108 = mup1 (τ 108) S.length a := by rw [e', mup_off (by decide), mup_row]
    rw [e8]
    refine ⟨by simp [mup1], hol_up (by omega) f9⟩
  · rw [e']
    exact (FH.rfl'.urow (q := 108) (by decide) (Or.inr rfl)).u86 (by decide)
