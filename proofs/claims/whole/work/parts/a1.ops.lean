/-! LAYER 2: kitchen, both on -/
def StC (σ : mMem) (b : Nat → Int) (l : Nat) : Prop := (∃ s, CTk σ b l s) ∨ ∃ fk fp, DdC σ fk fp
def Mt (σ τ : mMem) (b : Nat → Int) (l : Nat) : Prop := RTx τ b l ∧ ((∃ s, CTk σ b l s ∧ RSg τ b l s ∧ τ 86 8 = 0) ∨ ∃ fk fp, DdC σ fk fp ∧ DdR τ fk fp)
def FR (τ' τ : mMem) : Prop := (∀ q, q ≠ 86 → τ' q = τ q) ∧ ∀ j, (j < 3 ∨ (9 < j ∧ j ≠ 12)) → τ' 86 j = τ 86 j
theorem FR.rfl' {τ : mMem} : FR τ τ := ⟨fun _ _ => rfl, fun _ _ => rfl⟩
theorem FR.tr {a b c : mMem} (h : FR a b) (g : FR b c) : FR a c := ⟨fun q hq => (h.1 q hq).trans (g.1 q hq), fun j hj => (h.2 j hj).trans (g.2 j hj)⟩
theorem FR.up {τ' τ : mMem} {j : Nat} {z : Int} (h : FR τ' τ) (hj : (3 ≤ j ∧ j ≤ 9) ∨ j = 12) : FR (mup τ' 86 j z) τ := ⟨fun q hq => by rw [mup_off hq]; exact h.1 q hq, fun i hi => by rw [mup_ne (by omega)]; exact h.2 i hi⟩
theorem FA.fr {τ' τ : mMem} (h : FA τ' τ) : FR τ' τ := ⟨h.1, fun j hj => h.2 j (by omega) (by omega) (by omega) (by omega) (by omega) (by omega)⟩
theorem RTx.fr {τ τ' : mMem} {b : Nat → Int} {l : Nat} (h : RTx τ b l) (f : FR τ' τ) : RTx τ' b l := ⟨h.1, by rw [f.2 2 (by decide)]; exact h.2.1, fun j hj => by rw [f.1 87 (by decide)]; exact h.2.2 j hj⟩
theorem CTk.nd {σ : mMem} {b : Nat → Int} {l s : Nat} {fk fp : Int} (h : CTk σ b l s) (d : DdC σ fk fp) : False := by
  have := h.2.1
  have := d.2.1
  have := d.1
  omega
theorem Mt.live {σ τ : mMem} {b : Nat → Int} {l s : Nat} (h : Mt σ τ b l) (c : CTk σ b l s) : RSg τ b l s ∧ τ 86 8 = 0 := by
  rcases h.2 with ⟨s', c', r, e⟩ | ⟨fk, fp, d, -⟩
  · have : s' = s := by
      have a1 := c.2.2.2.2.1
      have a2 := c'.2.2.2.2.1
      omega
    subst this
    exact ⟨r, e⟩
  · exact (c.nd d).elim
theorem Mt.dead {σ τ : mMem} {b : Nat → Int} {l : Nat} {fk fp : Int} (h : Mt σ τ b l) (d : DdC σ fk fp) : DdR τ fk fp := by
  rcases h.2 with ⟨s', c', r, e⟩ | ⟨fk', fp', d', r⟩
  · exact (c'.nd d).elim
  · have e1 : fk' = fk := by rw [← d'.2.1, ← d.2.1]
    have e2 : fp' = fp := by rw [← d'.2.2.1, ← d.2.2.1]
    rw [e1, e2] at r
    exact r
theorem j_adv {F l s : Nat} {σ : mMem} {b : Nat → Int} (hF : 2000 ≤ F) (hb : ∀ j, j < l → 0 ≤ b j ∧ b j ≤ 255) (h : CTk σ b l s) (hs : s < l) : ∃ σ', g_X8_next F σ = some (0, σ') ∧ FN σ' σ ∧ StC σ' b l ∧ ∀ τ, Mt σ τ b l → ∃ τ', g_X12_ahead F τ = some (0, τ') ∧ FA τ' τ ∧ Mt σ' τ' b l := by
  obtain ⟨s', hn⟩ := nx_ex (b := b) hs
  obtain ⟨σ', a1, a2, a3⟩ := c_next (F := F) hb h hs hn
  refine ⟨σ', a1, a2, ?_, fun τ hm => ?_⟩
  · rcases a3 with c | ⟨k, -, d⟩
    · exact Or.inl ⟨s', c⟩
    · exact Or.inr ⟨1, (k : Int), d⟩
  · obtain ⟨r, e8⟩ := hm.live h
    obtain ⟨s2, τ', t1, t2, t3, t4⟩ := r_next (F := F) hF hm.1 hs r
    have : s2 = s' := t3.uniq hn
    subst this
    have e8' : τ' 86 8 = 0 := by rw [t2.2 8 (by decide) (by decide) (by decide) (by decide) (by decide) (by decide)]; exact e8
    refine ⟨τ', t1, t2, hm.1.fa t2, ?_⟩
    rcases a3 with c | ⟨k, ⟨k1, k2, k3⟩, d⟩
    · exact Or.inl ⟨s2, c, t4, e8'⟩
    · exact Or.inr ⟨1, (k : Int), d, Or.inr ⟨e8', rfl, t4.bad k2 k1 k3⟩⟩
theorem c_nextd {F : Nat} {σ : mMem} {fk fp : Int} (d : DdC σ fk fp) : g_X8_next F σ = some (0, σ) := by
  unfold g_X8_next
  have := d.1
  rw [d.2.1]
  exact e_f (by rw [mw_id (by omega) (by omega)]; omega) rfl
theorem c_refd {F : Nat} {σ : mMem} {fk fp x : Int} (d : DdC σ fk fp) : ∃ σ', g_X8_refuseHere F x σ = some (0, σ') ∧ FN σ' σ ∧ DdC σ' fk fp := by
  have := d.1
  refine ⟨mup (mup σ 14 7 0) 14 9 0, ?_, (FN.rfl'.up (by decide)).up (by decide), d.1, ?_, ?_, ?_, mup_at rfl rfl⟩
  · unfold g_X8_refuseHere g_X8_refuseHere_b20
    rw [d.2.1]
    exact e_t (by rw [mw_id (by omega) (by omega)]; omega) (e_mem (e_mem rfl))
  · rw [mup_ne (by decide), mup_ne (by decide)]; exact d.2.1
  · rw [mup_ne (by decide), mup_ne (by decide)]; exact d.2.2.1
  · rw [mup_ne (by decide), mup_at rfl rfl]
/-- the class refuses here -/
theorem c_ref {F l s : Nat} {σ : mMem} {b : Nat → Int} {x : Int} (h : CTk σ b l s) (hx : 1 ≤ x ∧ x ≤ 6) (hs : s ≤ l) : ∃ σ', g_X8_refuseHere F x σ = some (0, σ') ∧ FN σ' σ ∧ DdC σ' x (s : Int) := by
  have h0 := h.1.1
  refine ⟨mup (mup (mup (mup σ 14 10 x) 14 11 (s : Int)) 14 7 0) 14 9 0, ?_, (((FN.rfl'.up (by decide)).up (by decide)).up (by decide)).up (by decide), by omega, ?_, ?_, ?_, mup_at rfl rfl⟩
  · unfold g_X8_refuseHere g_X8_refuseHere_b20
    rw [h.2.1]
    refine e_f (fun e => e rfl) (e_mem (e_mem ?_))
    rw [mup_ne (o := 14) (j := 8) (by decide), h.2.2.2.2.1]
    exact e_mem (e_mem rfl)
  · rw [mup_ne (by decide), mup_ne (by decide), mup_ne (by decide), mup_at rfl rfl]
  · rw [mup_ne (by decide), mup_ne (by decide), mup_at rfl rfl]
  · rw [mup_ne (by decide), mup_at rfl rfl]
theorem CTk.le {σ : mMem} {b : Nat → Int} {l s : Nat} (h : CTk σ b l s) : s ≤ l := by
  rcases h.2.2.2.2.2 with ⟨e, -⟩ | ⟨⟨e, -⟩, -⟩ <;> omega
/-- it blames here -/
theorem r_bl {F : Nat} {τ : mMem} {x p : Int} (e : τ 86 8 = 0) : g_X12_blame F x p τ = some (0, mup (mup τ 86 8 x) 86 9 p) := by
  unfold g_X12_blame
  rw [e]
  exact e_t (by decide) (e_mem (e_mem rfl))
theorem r_bld {F : Nat} {τ : mMem} {x p fk : Int} (e : τ 86 8 = fk) (hk : 1 ≤ fk ∧ fk ≤ 6) : g_X12_blame F x p τ = some (0, τ) := by
  unfold g_X12_blame
  rw [e]
  exact e_f (by rw [mw_id (by omega) (by omega)]; omega) rfl
/-- the look at the sign itself: what has a fault has it then -/
theorem r_lex {F l : Nat} {σ τ : mMem} {b : Nat → Int} (h : Mt σ τ b l) : ∃ τ', g_X12_lex F τ = some (0, τ') ∧ FR τ' τ ∧ Mt σ τ' b l ∧ ((∃ s, CTk σ b l s ∧ τ' = τ ∧ RSg τ b l s ∧ τ 86 8 = 0 ∧ Vw σ τ) ∨ (∃ fk fp, DdC σ fk fp ∧ τ' 86 8 = fk ∧ τ' 86 9 = fp)) := by
  obtain ⟨hx, h2⟩ := h
  rcases h2 with ⟨s, c, r, e8⟩ | ⟨fk, fp, d, r⟩
  · have vw := c.vw hx r
    refine ⟨τ, ?_, FR.rfl', ⟨hx, Or.inl ⟨s, c, r, e8⟩⟩, Or.inl ⟨s, c, rfl, r, e8, vw⟩⟩
    unfold g_X12_lex g_X12_lex_b17
    rw [vw.2.1]
    exact e_t rfl rfl
  · have dk := d.1
    rcases r with ⟨r1, r2⟩ | ⟨r1, r2, r3⟩
    · refine ⟨τ, ?_, FR.rfl', ⟨hx, Or.inr ⟨fk, fp, d, Or.inl ⟨r1, r2⟩⟩⟩, Or.inr ⟨fk, fp, d, r1, r2⟩⟩
      unfold g_X12_lex g_X12_lex_b17
      by_cases c : mw (τ 86 12) = mw (-1)
      · exact e_t c rfl
      · exact e_f c (e_mob (r_bld r1 (by omega)) rfl)
    · obtain ⟨τ', e'⟩ : ∃ y, y = mup (mup τ 86 8 1) 86 9 fp := ⟨_, rfl⟩
      have f' : FR τ' τ := by rw [e']; exact (FR.rfl'.up (by decide)).up (by decide)
      have v8 : τ' 86 8 = fk := by rw [e', mup_ne (by decide), mup_at rfl rfl, r2]
      have v9 : τ' 86 9 = fp := by rw [e', mup_at rfl rfl]
      refine ⟨τ', ?_, f', ⟨hx.fr f', Or.inr ⟨fk, fp, d, Or.inl ⟨v8, v9⟩⟩⟩, Or.inr ⟨fk, fp, d, v8, v9⟩⟩
      unfold g_X12_lex g_X12_lex_b17
      rw [r3]
      refine e_f (by rw [mw_id (by omega) (by omega), show mw (-1) = -1 by decide]; omega) (e_mob (r_bl r1) ?_)
      rw [← e']
