/-! LAYER 2: kitchen, a number -/
theorem CTk.same {σ : mMem} {b : Nat → Int} {l s s' : Nat} (c : CTk σ b l s) (c' : CTk σ b l s') : s' = s := by
  have a1 := c.2.2.2.2.1
  have a2 := c'.2.2.2.2.1
  omega
theorem Vw.num {σ τ : mMem} (v : Vw σ τ) : (τ 86 3 = 2 ↔ σ 14 7 = 3) ∧ (0 ≤ τ 86 3 ∧ τ 86 3 ≤ 3) ∧ (σ 14 7 = 3 → τ 86 6 = σ 14 9 ∧ 0 ≤ σ 14 9 ∧ σ 14 9 ≤ 9999) := by
  rcases v.2.2 with ⟨a1, a2, a3⟩ | ⟨a1, a2, -⟩ | ⟨k, -, a1, -, a3, -⟩ | ⟨a1, a2, a3, a4⟩ | ⟨a1, a2, a3, a4⟩
  · exact ⟨⟨fun q => by omega, fun q => by omega⟩, by omega, fun q => by omega⟩
  · exact ⟨⟨fun q => by omega, fun q => by omega⟩, by omega, fun q => by omega⟩
  · exact ⟨⟨fun q => by omega, fun q => by omega⟩, by omega, fun q => by omega⟩
  · exact ⟨⟨fun q => a1, fun q => a2⟩, by omega, fun q => ⟨a3, a4⟩⟩
  · exact ⟨⟨fun q => by omega, fun q => by omega⟩, by omega, fun q => by omega⟩
theorem j_num {F l : Nat} {σ : mMem} {b : Nat → Int} {x y : Int} (hF : 2000 ≤ F) (hb : ∀ j, j < l → 0 ≤ b j ∧ b j ≤ 255) (hx : 0 ≤ x ∧ x ≤ 10000) (hy : -10000 ≤ y ∧ y ≤ 10000) (h : StC σ b l) : ∃ r σ', g_X8_takeNumber F x y σ = some (r, σ') ∧ FN σ' σ ∧ StC σ' b l ∧ (r = 0 ∨ (x ≤ r ∧ r ≤ y)) ∧ ((∃ s, CTk σ' b l s) → (x ≤ r ∧ r ≤ y) ∧ (∃ s, CTk σ b l s)) ∧ ∀ τ y', Mt σ τ b l → ((∃ s, CTk σ b l s) → y' = y) → ∃ r' τ', g_X12_number F x y' τ = some (r', τ') ∧ FR τ' τ ∧ Mt σ' τ' b l ∧ (τ' 86 8 = 0 → r' = r ∧ (x ≤ r ∧ r ≤ y) ∧ τ 86 8 = 0 ∧ (∃ s, CTk σ b l s)) := by
  have rg := h.rg hb
  have head : ∀ X, (if σ 14 7 = 3 then (if σ 14 9 < x then (g_X8_takeNumber_b32 F σ) else (if σ 14 9 ≤ y then (g_X8_takeNumber_b37 F σ) else (g_X8_takeNumber_b32 F σ))) else (mob (g_X8_refuseHere F 1 σ) (fun r1 σ2 => g_X8_takeNumber_b37 F σ2))) = X → g_X8_takeNumber F x y σ = X := by
    intro X hX
    unfold g_X8_takeNumber
    rw [mw_id (z := σ 14 7) (by omega) (by omega), mw_id (z := σ 14 9) (by omega) (by omega), mw_id (z := x) (by omega) (by omega), mw_id (z := y) (by omega) (by omega), mw_id (z := 3) (by decide) (by decide)]
    exact hX
  rcases h with ⟨s, c⟩ | ⟨fk, fp, d⟩
  · -- the reference, as far as it looks at the sign
    have rhead : ∀ τ X, Mt σ τ b l → (if τ 86 3 = 2 then (g_X12_number_b30 F x y τ) else (mob (g_X12_blame F 1 (τ 86 4) τ) (fun r3 σ4 => g_X12_number_b30 F x y σ4))) = X → g_X12_number F x y τ = X := by
      intro τ X hm hX
      obtain ⟨τ1, t1, t2, t3, t4⟩ := r_lex (F := F) hm
      rcases t4 with ⟨s', q1, q2, q3, q4, q5⟩ | ⟨fk, fp, d, -⟩
      · subst q2
        have vn := q5.num
        unfold g_X12_number
        refine e_mob t1 ?_
        rw [q4, mw_id (z := τ1 86 3) (by omega) (by omega), mw_id (z := 2) (by decide) (by decide)]
        exact e_t (by decide) hX
      · exact (c.nd d).elim
    have die : ∀ (z : Int) (σ' : mMem), (1 ≤ z ∧ z ≤ 6) → DdC σ' z (s : Int) → ∀ τ, Mt σ τ b l → ∃ τ', g_X12_blame F z (τ 86 4) τ = some (0, τ') ∧ FR τ' τ ∧ Mt σ' τ' b l ∧ g_X12_number_b58 F τ' = some (τ' 86 6, τ') ∧ τ' 86 8 = z := by
      intro z σ' hz d τ hm
      obtain ⟨τ2, y1, y2, y3, y4⟩ := r_die (F := F) hm c d
      refine ⟨τ2, y1, y2, y3, ?_, y4⟩
      unfold g_X12_number_b58 g_X12_number_b74
      refine e_let ?_
      rw [y4]
      exact e_t (by rw [mw_id (by omega) (by omega)]; omega) rfl
    by_cases c3 : σ 14 7 = 3
    · by_cases cr : x ≤ σ 14 9 ∧ σ 14 9 ≤ y
      · obtain ⟨σ', a1, a2, a3, a4⟩ := j_adv (F := F) hF hb c (c.lt (by omega))
        refine ⟨σ 14 9, σ', head _ ?_, a2, a3, Or.inr cr, fun _ => ⟨cr, s, c⟩, fun τ y' hm hy' => ?_⟩
        rotate_left
        · have yy := hy' ⟨s, c⟩
          subst yy
          obtain ⟨τ', y1, y2, y3⟩ := a4 τ hm
          obtain ⟨rr, e8⟩ := hm.live c
          have vn := (c.vw hm.1 rr).num
          obtain ⟨v1, v2, v3⟩ := vn.2.2 c3
          refine ⟨σ 14 9, τ', rhead τ _ hm ((if_pos (vn.1.mpr c3)).trans ?_), y2.fr, y3, fun _ => ⟨rfl, cr, e8, s, c⟩⟩
          unfold g_X12_number_b30 g_X12_number_b58 g_X12_number_b74
          rw [e8, v1]
          refine e_f (fun e => e rfl) (e_mob (zr_isi (by omega)) ?_)
          rw [mb_t cr, v1, e8]
          exact e_t (by decide) (e_let (e_f (fun e => e rfl) (e_mob y1 rfl)))
        · refine (if_pos c3).trans ((if_neg (by omega)).trans ((if_pos cr.2).trans ?_))
          unfold g_X8_takeNumber_b37
          exact e_let (e_mob a1 rfl)
      · obtain ⟨σ', a1, a2, a3⟩ := c_ref (F := F) (x := 4) c (by decide) c.le
        refine ⟨0, σ', head _ ((if_pos c3).trans ?_), a2, Or.inr ⟨4, (s : Int), a3⟩, Or.inl rfl, fun ⟨s', c'⟩ => (c'.nd a3).elim, fun τ y' hm hy' => ?_⟩
        · have b32 : g_X8_takeNumber_b32 F σ = some (0, σ') := by
            unfold g_X8_takeNumber_b32 g_X8_takeNumber_b37
            refine e_mob a1 (e_let ?_)
            rw [a3.2.2.2.2]
            exact e_mob (c_nextd a3) rfl
          by_cases c1 : σ 14 9 < x
          · exact (if_pos c1).trans b32
          · exact (if_neg c1).trans ((if_neg (by omega)).trans b32)
        · have yy := hy' ⟨s, c⟩
          subst yy
          obtain ⟨rr, e8⟩ := hm.live c
          have vn := (c.vw hm.1 rr).num
          obtain ⟨v1, v2, v3⟩ := vn.2.2 c3
          obtain ⟨τ', y1, y2, y3, y4, y5⟩ := die 4 σ' (by decide) a3 τ hm
          refine ⟨τ' 86 6, τ', rhead τ _ hm ((if_pos (vn.1.mpr c3)).trans ?_), y2, y3, fun e => absurd e (by rw [y5]; decide)⟩
          unfold g_X12_number_b30
          rw [e8, v1]
          refine e_f (fun e => e rfl) (e_mob (zr_isi (by omega)) ?_)
          rw [mb_f cr]
          exact e_f (by decide) (e_mob y1 y4)
    · obtain ⟨σ', a1, a2, a3⟩ := c_ref (F := F) (x := 1) c (by decide) c.le
      refine ⟨0, σ', head _ ((if_neg c3).trans ?_), a2, Or.inr ⟨1, (s : Int), a3⟩, Or.inl rfl, fun ⟨s', c'⟩ => (c'.nd a3).elim, fun τ y' hm hy' => ?_⟩
      · unfold g_X8_takeNumber_b37
        refine e_mob a1 (e_let ?_)
        rw [a3.2.2.2.2]
        exact e_mob (c_nextd a3) rfl
      · have yy := hy' ⟨s, c⟩
        subst yy
        obtain ⟨rr, e8⟩ := hm.live c
        have vn := (c.vw hm.1 rr).num
        obtain ⟨τ', y1, y2, y3, y4, y5⟩ := die 1 σ' (by decide) a3 τ hm
        refine ⟨τ' 86 6, τ', rhead τ _ hm ((if_neg (fun e => c3 (vn.1.mp e))).trans (e_mob y1 ?_)), y2, y3, fun e => absurd e (by rw [y5]; decide)⟩
        unfold g_X12_number_b30
        rw [y5]
        exact e_t (by decide) y4
  · obtain ⟨σ', a1, a2, a3⟩ := c_refd (F := F) (x := 1) d
    refine ⟨0, σ', head _ ((if_neg (by rw [d.2.2.2.1]; decide)).trans ?_), a2, Or.inr ⟨fk, fp, a3⟩, Or.inl rfl, fun ⟨s', c'⟩ => (c'.nd a3).elim, fun τ y' hm hy' => ?_⟩
    · unfold g_X8_takeNumber_b37
      refine e_mob a1 (e_let ?_)
      rw [a3.2.2.2.2]
      exact e_mob (c_nextd a3) rfl
    · obtain ⟨τ1, t1, t2, t3, t4⟩ := r_lex (F := F) hm
      rcases t4 with ⟨s, q1, -⟩ | ⟨fk', fp', d', e8, e9⟩
      · exact (q1.nd d).elim
      · have e1 : fk' = fk := by rw [← d'.2.1, ← d.2.1]
        have e2 : fp' = fp := by rw [← d'.2.2.1, ← d.2.2.1]
        rw [e1] at e8
        rw [e2] at e9
        have dk := d.1
        refine ⟨0, τ1, ?_, t2, ⟨t3.1, Or.inr ⟨fk, fp, a3, Or.inl ⟨e8, e9⟩⟩⟩, fun e => absurd e (by rw [e8]; omega)⟩
        unfold g_X12_number
        refine e_mob t1 ?_
        rw [e8]
        exact e_f (by rw [mw_id (by omega) (by omega)]; omega) rfl
