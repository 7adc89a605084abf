/-! LAYER 2: kitchen, what must stand -/
theorem CTk.rg {σ : mMem} {b : Nat → Int} {l s : Nat} (hb : ∀ j, j < l → 0 ≤ b j ∧ b j ≤ 255) (h : CTk σ b l s) : (0 ≤ σ 14 7 ∧ σ 14 7 ≤ 4) ∧ 0 ≤ σ 14 9 ∧ σ 14 9 ≤ 2000000000 := by
  rcases h.2.2.2.2.2 with ⟨-, e2, e3⟩ | ⟨⟨e1, e2⟩, e3, e4⟩
  · rw [e2, e3]; omega
  · have T : TokM σ b s (xCt b s) l := by
      rcases h.2.2.2.1 with g | ⟨k, sb, g, g2⟩
      · exact g.2 s e1 e2
      · exact g.2.2.2.1 s g2 e2
    have := T.rng (hb s e1)
    rw [e3, e4]
    omega
theorem StC.rg {σ : mMem} {b : Nat → Int} {l : Nat} (hb : ∀ j, j < l → 0 ≤ b j ∧ b j ≤ 255) (h : StC σ b l) : (0 ≤ σ 14 7 ∧ σ 14 7 ≤ 4) ∧ 0 ≤ σ 14 9 ∧ σ 14 9 ≤ 2000000000 := by
  rcases h with ⟨s, c⟩ | ⟨fk, fp, d⟩
  · exact c.rg hb
  · rw [d.2.2.2.1, d.2.2.2.2]; omega
theorem c_isM {F : Nat} {σ : mMem} {c : Int} (r : (0 ≤ σ 14 7 ∧ σ 14 7 ≤ 4) ∧ 0 ≤ σ 14 9 ∧ σ 14 9 ≤ 2000000000) (hc : 0 ≤ c ∧ c ≤ 255) : g_X8_isMark F c σ = some (mb (σ 14 7 = 4 ∧ σ 14 9 = c), σ) := by
  unfold g_X8_isMark g_X8_isMark_b20 g_X8_isMark_b21
  rw [mw_id (z := σ 14 7) (by omega) (by omega), mw_id (z := σ 14 9) (by omega) (by omega), mw_id (z := c) (by omega) (by omega), mw_id (z := 4) (by decide) (by decide)]
  by_cases c1 : σ 14 7 = 4
  · by_cases c2 : σ 14 9 = c
    · rw [mb_t ⟨c1, c2⟩]; exact e_f (fun e => e c1) (e_f (fun e => e c2) (e_t (by decide) rfl))
    · rw [mb_f (fun q => c2 q.2)]; exact e_f (fun e => e c1) (e_t c2 (e_t (by decide) rfl))
  · rw [mb_f (fun q => c1 q.1)]; exact e_t c1 (e_t (by decide) rfl)
theorem c_isW {F : Nat} {σ : mMem} {c : Int} (r : (0 ≤ σ 14 7 ∧ σ 14 7 ≤ 4) ∧ 0 ≤ σ 14 9 ∧ σ 14 9 ≤ 2000000000) (hc : 0 ≤ c ∧ c ≤ 255) : g_X8_isWord F c σ = some (mb (σ 14 7 = 2 ∧ σ 14 9 = c), σ) := by
  unfold g_X8_isWord g_X8_isWord_b20 g_X8_isWord_b21
  rw [mw_id (z := σ 14 7) (by omega) (by omega), mw_id (z := σ 14 9) (by omega) (by omega), mw_id (z := c) (by omega) (by omega), mw_id (z := 2) (by decide) (by decide)]
  by_cases c1 : σ 14 7 = 2
  · by_cases c2 : σ 14 9 = c
    · rw [mb_t ⟨c1, c2⟩]; exact e_f (fun e => e c1) (e_f (fun e => e c2) (e_t (by decide) rfl))
    · rw [mb_f (fun q => c2 q.2)]; exact e_f (fun e => e c1) (e_t c2 (e_t (by decide) rfl))
  · rw [mb_f (fun q => c1 q.1)]; exact e_t c1 (e_t (by decide) rfl)
theorem xOW_inj : ∀ j k : Fin 28, xOW j.val = xOW k.val → j.val = k.val := by decide
theorem xOW_rng : ∀ k : Fin 28, 0 ≤ xOW k.val ∧ xOW k.val ≤ 281474976710656 := by decide
/-- the reference sees a mark, a word: as the class does -/
theorem r_isS {F : Nat} {σ τ : mMem} {c : Int} (v : Vw σ τ) (hc : 0 ≤ c ∧ c ≤ 255) : g_X12_isSign F c τ = some (mb (σ 14 7 = 4 ∧ σ 14 9 = c), τ) := by
  have go : ∀ (p : Prop) [Decidable p], (p ↔ (τ 86 3 = 3 ∧ τ 86 6 = c)) → (0 ≤ τ 86 3 ∧ τ 86 3 ≤ 3) → (τ 86 3 = 3 → 0 ≤ τ 86 6 ∧ τ 86 6 ≤ 255) → g_X12_isSign F c τ = some (mb p, τ) := by
    intro p _ hp h3 h6
    unfold g_X12_isSign g_X12_isSign_b20 g_X12_isSign_b21
    rw [mw_id (z := τ 86 3) (by omega) (by omega), mw_id (z := c) (by omega) (by omega), mw_id (z := 3) (by decide) (by decide)]
    by_cases c1 : τ 86 3 = 3
    · have := h6 c1
      rw [mw_id (z := τ 86 6) (by omega) (by omega)]
      by_cases c2 : τ 86 6 = c
      · rw [mb_t (hp.mpr ⟨c1, c2⟩)]; exact e_f (fun e => e c1) (e_f (fun e => e c2) (e_t (by decide) rfl))
      · rw [mb_f (fun q => c2 (hp.mp q).2)]; exact e_f (fun e => e c1) (e_t c2 (e_t (by decide) rfl))
    · rw [mb_f (fun q => c1 (hp.mp q).1)]; exact e_t c1 (e_t (by decide) rfl)
  rcases v.2.2 with ⟨a1, a2, a3⟩ | ⟨a1, a2, -⟩ | ⟨k, -, a1, -, a3, -⟩ | ⟨a1, a2, a3, a4⟩ | ⟨a1, a2, a3, a4⟩
  · exact go _ ⟨fun q => by omega, fun q => by omega⟩ (by omega) (fun e => by omega)
  · exact go _ ⟨fun q => by omega, fun q => by omega⟩ (by omega) (fun e => by omega)
  · exact go _ ⟨fun q => by omega, fun q => by omega⟩ (by omega) (fun e => by omega)
  · exact go _ ⟨fun q => by omega, fun q => by omega⟩ (by omega) (fun e => by omega)
  · exact go _ ⟨fun q => by omega, fun q => by omega⟩ (by omega) (fun e => by omega)
theorem nm_rng {a w : Int} (h : NmR a w) : 0 ≤ w ∧ w ≤ 281474976710656 := by
  obtain ⟨n, L, n1, n2, -, -, e⟩ := h
  have := hw_b (L := L) n1.2 n2
  rw [e]
  omega
theorem r_isW {F k : Nat} {σ τ : mMem} (v : Vw σ τ) (hk : k < 28) : g_X12_isWord F (xOW k) τ = some (mb (σ 14 7 = 2 ∧ σ 14 9 = (k : Int)), τ) := by
  have rk := xOW_rng ⟨k, hk⟩
  simp only at rk
  have go : ∀ (p : Prop) [Decidable p], (p ↔ (τ 86 3 = 1 ∧ τ 86 7 = xOW k)) → (0 ≤ τ 86 3 ∧ τ 86 3 ≤ 3) → (τ 86 3 = 1 → 0 ≤ τ 86 7 ∧ τ 86 7 ≤ 281474976710656) → g_X12_isWord F (xOW k) τ = some (mb p, τ) := by
    intro p _ hp h3 h6
    unfold g_X12_isWord g_X12_isWord_b21 g_X12_isWord_b22
    rw [mw_id (z := τ 86 3) (by omega) (by omega), mwl_id (z := xOW k) (by omega) (by omega), mw1']
    by_cases c1 : τ 86 3 = 1
    · have := h6 c1
      rw [mwl_id (z := τ 86 7) (by omega) (by omega)]
      by_cases c2 : τ 86 7 = xOW k
      · rw [mb_t (hp.mpr ⟨c1, c2⟩)]; exact e_f (fun e => e c1) (e_f (fun e => e c2) (e_t (by decide) rfl))
      · rw [mb_f (fun q => c2 (hp.mp q).2)]; exact e_f (fun e => e c1) (e_t c2 (e_t (by decide) rfl))
    · rw [mb_f (fun q => c1 (hp.mp q).1)]; exact e_t c1 (e_t (by decide) rfl)
  rcases v.2.2 with ⟨a1, a2, a3⟩ | ⟨a1, a2, a3, a4⟩ | ⟨j, j1, a1, a2, a3, a4⟩ | ⟨a1, a2, a3, a4⟩ | ⟨a1, a2, a3, a4⟩
  · exact go _ ⟨fun q => by omega, fun q => by omega⟩ (by omega) (fun e => by omega)
  · exact go _ ⟨fun q => by omega, fun q => absurd q.2.symm (a4 k hk)⟩ (by omega) (fun e => nm_rng a3)
  · have rj := xOW_rng ⟨j, j1⟩
    simp only at rj
    refine go _ ⟨fun q => ⟨a3, ?_⟩, fun q => ⟨a1, ?_⟩⟩ (by omega) (fun e => by rw [a4]; exact rj)
    · have : j = k := by omega
      rw [a4, this]
    · have := xOW_inj ⟨j, j1⟩ ⟨k, hk⟩ (by rw [← a4]; exact q.2)
      simp only at this
      rw [a2, this]
  · exact go _ ⟨fun q => by omega, fun q => by omega⟩ (by omega) (fun e => by omega)
  · exact go _ ⟨fun q => by omega, fun q => by omega⟩ (by omega) (fun e => by omega)
theorem CTk.lt {σ : mMem} {b : Nat → Int} {l s : Nat} (h : CTk σ b l s) (hk : ¬ σ 14 7 = 0) : s < l := by
  rcases h.2.2.2.2.2 with ⟨-, e, -⟩ | ⟨⟨e, -⟩, -⟩
  · exact absurd e hk
  · exact e
/-- the reference blames here, what the class refused -/
theorem r_die {F l s : Nat} {σ σ' τ : mMem} {b : Nat → Int} {x : Int} (hm : Mt σ τ b l) (c : CTk σ b l s) (d : DdC σ' x (s : Int)) : ∃ τ', g_X12_blame F x (τ 86 4) τ = some (0, τ') ∧ FR τ' τ ∧ Mt σ' τ' b l ∧ τ' 86 8 = x := by
  obtain ⟨r, e8⟩ := hm.live c
  have v := c.vw hm.1 r
  have e4 : τ 86 4 = (s : Int) := by rw [← v.1]; exact c.2.2.2.2.1
  obtain ⟨τ', e'⟩ : ∃ y, y = mup (mup τ 86 8 x) 86 9 (s : Int) := ⟨_, rfl⟩
  have f' : FR τ' τ := by rw [e']; exact (FR.rfl'.up (by decide)).up (by decide)
  have v8 : τ' 86 8 = x := by rw [e', mup_ne (by decide), mup_at rfl rfl]
  refine ⟨τ', ?_, f', ⟨hm.1.fr f', Or.inr ⟨x, (s : Int), d, Or.inl ⟨v8, by rw [e', mup_at rfl rfl]⟩⟩⟩, v8⟩
  rw [e4, r_bl e8, ← e']
theorem j_take {F l : Nat} {σ : mMem} {b : Nat → Int} (hF : 2000 ≤ F) (hb : ∀ j, j < l → 0 ≤ b j ∧ b j ≤ 255) (h : StC σ b l) (p : Prop) [Decidable p] (hp : p → ¬ σ 14 7 = 0) : ∃ σ', (mob (some (mb p, σ)) (fun r1 σ2 => if ¬ mw r1 = 0 then (mob (g_X8_next F σ2) (fun r105 σ106 => some ((0 : Int), σ106))) else (mob (g_X8_refuseHere F 1 σ2) (fun r3 σ4 => mob (g_X8_next F σ4) (fun r105 σ106 => some (0, σ106))))) = some (0, σ')) ∧ FN σ' σ ∧ StC σ' b l ∧ (∀ s, CTk σ b l s → p → ∀ τ, Mt σ τ b l → ∃ τ', g_X12_ahead F τ = some (0, τ') ∧ FA τ' τ ∧ Mt σ' τ' b l) ∧ (∀ s, CTk σ b l s → ¬ p → DdC σ' 1 (s : Int)) ∧ (∀ fk fp, DdC σ fk fp → DdC σ' fk fp) := by
  rcases h with ⟨s, c⟩ | ⟨fk, fp, d⟩
  · by_cases cp : p
    · obtain ⟨σ', a1, a2, a3, a4⟩ := j_adv (F := F) hF hb c (c.lt (hp cp))
      refine ⟨σ', ?_, a2, a3, fun s' _ _ τ hm => a4 τ hm, fun _ _ np => absurd cp np, fun fk fp d => (c.nd d).elim⟩
      rw [mb_t cp]
      exact e_mob rfl (e_t (by decide) (e_mob a1 rfl))
    · obtain ⟨σ', a1, a2, a3⟩ := c_ref (F := F) (x := 1) c (by decide) c.le
      refine ⟨σ', ?_, a2, Or.inr ⟨1, (s : Int), a3⟩, fun _ _ q => absurd q cp, fun s' c' _ => ?_, fun fk fp d => (c.nd d).elim⟩
      · rw [mb_f cp]
        exact e_mob rfl (e_f (by decide) (e_mob a1 (e_mob (c_nextd a3) rfl)))
      · have : s' = s := by
          have a1 := c.2.2.2.2.1
          have a2 := c'.2.2.2.2.1
          omega
        rw [this]; exact a3
  · have np : ¬ p := fun q => hp q d.2.2.2.1
    obtain ⟨σ', a1, a2, a3⟩ := c_refd (F := F) (x := 1) d
    refine ⟨σ', ?_, a2, Or.inr ⟨fk, fp, a3⟩, fun s c => (c.nd d).elim, fun s c => (c.nd d).elim, fun fk' fp' d' => ?_⟩
    · rw [mb_f np]
      exact e_mob rfl (e_f (by decide) (e_mob a1 (e_mob (c_nextd a3) rfl)))
    · have e1 : fk' = fk := by rw [← d'.2.1, ← d.2.1]
      have e2 : fp' = fp := by rw [← d'.2.2.1, ← d.2.2.1]
      rw [e1, e2]; exact a3
theorem j_mark {F l : Nat} {σ : mMem} {b : Nat → Int} {c : Int} (hF : 2000 ≤ F) (hb : ∀ j, j < l → 0 ≤ b j ∧ b j ≤ 255) (hc : 0 ≤ c ∧ c ≤ 255) (h : StC σ b l) : ∃ σ', g_X8_takeMark F c σ = some (0, σ') ∧ FN σ' σ ∧ StC σ' b l ∧ ∀ τ, Mt σ τ b l → ∃ τ', g_X12_must F c τ = some (0, τ') ∧ FR τ' τ ∧ Mt σ' τ' b l := by
  obtain ⟨σ', a1, a2, a3, a4, a5, a6⟩ := j_take (F := F) hF hb h (σ 14 7 = 4 ∧ σ 14 9 = c) (fun q => by omega)
  refine ⟨σ', ?_, a2, a3, fun τ hm => ?_⟩
  · unfold g_X8_takeMark g_X8_takeMark_b13
    rw [c_isM (h.rg hb) hc]
    exact a1
  · obtain ⟨τ1, t1, t2, t3, t4⟩ := r_lex (F := F) hm
    rcases t4 with ⟨s, q1, q2, q3, q4, q5⟩ | ⟨fk, fp, d, e8, e9⟩
    · subst q2
      by_cases cp : σ 14 7 = 4 ∧ σ 14 9 = c
      · obtain ⟨τ2, y1, y2, y3⟩ := a4 s q1 cp τ1 hm
        refine ⟨τ2, ?_, y2.fr, y3⟩
        unfold g_X12_must g_X12_must_b21 g_X12_must_b32
        refine e_mob t1 (e_mob (r_isS q5 hc) ?_)
        rw [mb_t cp, q4]
        exact e_t (by decide) (e_f (fun e => e rfl) (e_mob y1 rfl))
      · obtain ⟨τ2, y1, y2, y3, y4⟩ := r_die (F := F) hm q1 (a5 s q1 cp)
        refine ⟨τ2, ?_, y2, y3⟩
        unfold g_X12_must g_X12_must_b21 g_X12_must_b32
        refine e_mob t1 (e_mob (r_isS q5 hc) ?_)
        rw [mb_f cp]
        refine e_f (by decide) (e_mob y1 ?_)
        rw [y4]
        exact e_t (by decide) rfl
    · have dk := d.1
      refine ⟨τ1, ?_, t2, t3.1, Or.inr ⟨fk, fp, a6 fk fp d, Or.inl ⟨e8, e9⟩⟩⟩
      have fin : g_X12_must_b21 F τ1 = some (0, τ1) := by
        unfold g_X12_must_b21 g_X12_must_b32
        rw [e8]
        exact e_t (by rw [mw_id (by omega) (by omega)]; omega) rfl
      unfold g_X12_must
      refine e_mob t1 ?_
      have sg : ∃ z, g_X12_isSign F c τ1 = some (z, τ1) := by
        unfold g_X12_isSign g_X12_isSign_b20 g_X12_isSign_b21
        by_cases c1 : mw (τ1 86 3) = mw 3
        · by_cases c2 : mw (τ1 86 6) = mw c
          · exact ⟨1, e_f (fun e => e c1) (e_f (fun e => e c2) (e_t (by decide) rfl))⟩
          · exact ⟨0, e_f (fun e => e c1) (e_t c2 (e_t (by decide) rfl))⟩
        · exact ⟨0, e_t c1 (e_t (by decide) rfl)⟩
      obtain ⟨z, ez⟩ := sg
      refine e_mob ez ?_
      by_cases cz : mw z = 0
      · exact e_f (fun e => e cz) (e_mob (r_bld e8 (by omega)) fin)
      · exact e_t cz fin
theorem j_word {F l k : Nat} {σ : mMem} {b : Nat → Int} (hF : 2000 ≤ F) (hb : ∀ j, j < l → 0 ≤ b j ∧ b j ≤ 255) (hk : k < 28) (h : StC σ b l) : ∃ σ', g_X8_takeWord F (k : Int) σ = some (0, σ') ∧ FN σ' σ ∧ StC σ' b l ∧ ∀ τ, Mt σ τ b l → ∃ τ', g_X12_must_ F (xOW k) τ = some (0, τ') ∧ FR τ' τ ∧ Mt σ' τ' b l := by
  obtain ⟨σ', a1, a2, a3, a4, a5, a6⟩ := j_take (F := F) hF hb h (σ 14 7 = 2 ∧ σ 14 9 = (k : Int)) (fun q => by omega)
  refine ⟨σ', ?_, a2, a3, fun τ hm => ?_⟩
  · unfold g_X8_takeWord g_X8_takeWord_b13
    rw [c_isW (h.rg hb) (by omega)]
    exact a1
  · obtain ⟨τ1, t1, t2, t3, t4⟩ := r_lex (F := F) hm
    rcases t4 with ⟨s, q1, q2, q3, q4, q5⟩ | ⟨fk, fp, d, e8, e9⟩
    · subst q2
      by_cases cp : σ 14 7 = 2 ∧ σ 14 9 = (k : Int)
      · obtain ⟨τ2, y1, y2, y3⟩ := a4 s q1 cp τ1 hm
        refine ⟨τ2, ?_, y2.fr, y3⟩
        unfold g_X12_must_ g_X12_must__b29 g_X12_must__b40
        refine e_mob t1 ?_
        rw [q4]
        refine e_t (by decide) (e_mob (r_isW q5 hk) ?_)
        rw [mb_t cp, q4]
        exact e_t (by decide) (e_f (fun e => e rfl) (e_mob y1 rfl))
      · obtain ⟨τ2, y1, y2, y3, y4⟩ := r_die (F := F) hm q1 (a5 s q1 cp)
        refine ⟨τ2, ?_, y2, y3⟩
        unfold g_X12_must_ g_X12_must__b29 g_X12_must__b40
        refine e_mob t1 ?_
        rw [q4]
        refine e_t (by decide) (e_mob (r_isW q5 hk) ?_)
        rw [mb_f cp]
        refine e_f (by decide) (e_mob y1 ?_)
        rw [y4]
        exact e_t (by decide) rfl
    · have dk := d.1
      refine ⟨τ1, ?_, t2, t3.1, Or.inr ⟨fk, fp, a6 fk fp d, Or.inl ⟨e8, e9⟩⟩⟩
      unfold g_X12_must_
      refine e_mob t1 ?_
      rw [e8]
      exact e_f (by rw [mw_id (by omega) (by omega)]; omega) rfl
