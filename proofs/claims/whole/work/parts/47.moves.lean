/-! LAYER 2: the class's box moves, and its step -/
theorem mup1_at {r : Nat → Int} {k j : Nat} {z : Int} (h : j = k) : mup1 r k z j = z := by unfold mup1; rw [if_pos h]
theorem mup1_ne {r : Nat → Int} {k j : Nat} {z : Int} (h : j ≠ k) : mup1 r k z j = r j := by unfold mup1; rw [if_neg h]
theorem PlC.same {σ τ : mMem} {p : Nat} (h : PlC σ p) (h0 : τ p = σ p) (h1 : τ (p + 1) = σ (p + 1)) (h4 : τ (p + 4) = σ (p + 4)) : PlC τ p := by
  unfold PlC at *
  rw [h0, h1, h4]
  exact h
section MV
variable {F o k n p : Nat} {σ : mMem}
theorem z_b190 {τ : mMem} {lamp step : Int} {B : Nat → Int} (ho : 20 ≤ o) (hk : k < 6) (hF : 2000 ≤ F) (hp : σ o 3 = 3 ∨ σ o 3 = 8) (hp2 : (σ o 3).toNat = p) (hP : PlC σ p) (hl : 0 ≤ lamp ∧ lamp ≤ 9) (hst : 0 ≤ step ∧ step ≤ 1000) (hB2 : 0 ≤ B 2 ∧ B 2 ≤ 3) (hB3 : 0 ≤ B 3 ∧ B 3 ≤ 999) (hB4 : 0 ≤ B 4 ∧ B 4 ≤ 99)
    (t0 : ∀ q, q ≠ o + 1 → q ≠ o + 4 → q ≠ o + 5 → τ q = σ q) (t2 : τ (o + 1) (10 * k + 2) = B 2) (t4 : ∀ j, j < 7 → j ≠ 5 → τ (o + 4) j = xKn σ p lamp step B 0 j) :
    ∃ σ', g_X10_moveBox_b190 F o (k : Int) (xBy σ p lamp step B) τ = (if xGoV σ p lamp step B ≠ 0 then g_X10_moveBox_b267 F o (k : Int) σ' else g_X10_moveBox_b272 F o (k : Int) σ') ∧ (∀ q, q ≠ o + 1 → q ≠ o + 4 → q ≠ o + 5 → σ' q = σ q) ∧ σ' (o + 1) = mup1 (τ (o + 1)) (10 * k + 2) (xWay B (xBy σ p lamp step B)) := by
  have hby := xBy_v (step := step) (B := B) hP hl
  have hp8 : p ≤ 8 := by omega
  generalize hz : xBy σ p lamp step B = z at *
  -- behind the turn
  have tail : ∀ υ : mMem, (∀ q, q ≠ o + 1 → q ≠ o + 4 → q ≠ o + 5 → υ q = σ q) → (∀ j, j < 7 → j ≠ 5 → υ (o + 4) j = xKn σ p lamp step B 0 j) → ∃ σ', g_X10_moveBox_b210 F o (k : Int) z υ = (if xGoV σ p lamp step B ≠ 0 then g_X10_moveBox_b267 F o (k : Int) σ' else g_X10_moveBox_b272 F o (k : Int) σ') ∧ (∀ q, q ≠ o + 4 → q ≠ o + 5 → σ' q = υ q) := by
    intro υ u0 u4
    have e210 : g_X10_moveBox_b210 F o (k : Int) z υ = g_X10_moveBox_b228 F o (k : Int) 5 (mb (z ≠ 0)) υ := by
      unfold g_X10_moveBox_b210
      by_cases h0 : z = 0
      · rw [mb_f (fun q => q h0)]
        refine e_t (by rw [mw_sV hby]; exact h0) rfl
      · rw [mb_t h0]
        refine e_f (by rw [mw_sV hby]; exact h0) rfl
    rw [e210]
    have hmr := mb_rng (z ≠ 0)
    have v0 : ∀ q, q ≠ o + 4 → (mup υ (o + 4) 5 (mb (z ≠ 0))) q = υ q := fun q h => mup_off h
    have v4 : ∀ j, j < 7 → (mup υ (o + 4) 5 (mb (z ≠ 0))) (o + 4) j = xKn σ p lamp step B (mb (z ≠ 0)) j := by
      intro j hj
      rw [mup_row]
      by_cases h5 : j = 5
      · rw [mup1_at h5]
        subst h5
        rfl
      · rw [mup1_ne h5, u4 j hj h5]
        unfold xKn
        simp only [h5, if_false]
    have vp : (mup υ (o + 4) 5 (mb (z ≠ 0))) p = σ p := by rw [v0 _ (by omega), u0 _ (by omega) (by omega) (by omega)]
    have vp4 : (mup υ (o + 4) 5 (mb (z ≠ 0))) (p + 4) = σ (p + 4) := by rw [v0 _ (by omega), u0 _ (by omega) (by omega) (by omega)]
    have vo : (mup υ (o + 4) 5 (mb (z ≠ 0))) o = σ o := by rw [v0 _ (by omega), u0 _ (by omega) (by omega) (by omega)]
    generalize hυ : mup υ (o + 4) 5 (mb (z ≠ 0)) = ω at *
    obtain ⟨p1, p2, p3, p4, p5, p6, p7⟩ := id hP
    have hkv := xKn_v (t := mb (z ≠ 0)) hP hl hst hB4 hB3 (by omega)
    have hgo : xGoV σ p lamp step B = if σ p 7 < σ p 8 then (sRun (σ (p + 4)) (xKn σ p lamp step B (mb (z ≠ 0))) (σ p 8 - σ p 7).toNat (σ p 7).toNat []).headD 0 else 1 := by
      unfold xGoV
      rw [hz]
    have hgv := xGoV_v (lamp := lamp) (step := step) (B := B) hP
    by_cases hg : σ p 7 < σ p 8
    · obtain ⟨σ', ev, ef⟩ := z_val (F := F) (o := o) (p := p) (σ := ω) (a := σ p 7) (b := σ p 8) (m := 7) (kn := xKn σ p lamp step B (mb (z ≠ 0))) ho hp8 hF (by rw [vp4]; exact p7) hg (fun j hj => v4 j (by omega)) (fun j hj => hkv j (by omega))
      rw [vp4] at ev
      rw [if_pos hg] at hgo
      rw [← hgo] at ev
      refine ⟨σ', ?_, fun q h4 h5 => by rw [ef q h5, v0 q h4]⟩
      unfold g_X10_moveBox_b228
      refine e_t (by decide) ?_
      rw [show (mw 5).toNat = 5 by decide, hυ]
      refine e_mem ?_
      rw [vo]
      refine e_t hp ?_
      rw [hp2]
      refine e_mob (z_hasGoes (by rw [vp]; exact ⟨p5.2.2.1, p5.2.2.2⟩)) ?_
      rw [vo]
      refine e_f (by rw [mw_mb, mb_0, vp]; exact fun q => q hg) ?_
      refine e_t hp (e_t hp (e_t hp ?_))
      rw [hp2, vp]
      refine e_mob ev ?_
      by_cases h0 : xGoV σ p lamp step B = 0
      · exact (e_t (by rw [mw_sV hgv]; exact h0) rfl).trans (if_neg (fun q => q h0)).symm
      · exact (e_f (by rw [mw_sV hgv]; exact h0) rfl).trans (if_pos h0).symm
    · rw [if_neg hg] at hgo
      refine ⟨ω, ?_, fun q h4 h5 => v0 q h4⟩
      rw [hgo, if_pos (by decide)]
      unfold g_X10_moveBox_b228
      refine e_t (by decide) ?_
      rw [show (mw 5).toNat = 5 by decide, hυ]
      refine e_mem ?_
      rw [vo]
      refine e_t hp ?_
      rw [hp2]
      refine e_mob (z_hasGoes (by rw [vp]; exact ⟨p5.2.2.1, p5.2.2.2⟩)) ?_
      exact e_t (by rw [mw_mb, mb_0, vp]; exact hg) rfl
  -- the turn
  have hturn : ∀ (tq w : Int), mand (B 2 + tq) 3 = w → ∃ σ', g_X10_moveBox_b207 F o (k : Int) z (k : Int) tq τ = (if xGoV σ p lamp step B ≠ 0 then g_X10_moveBox_b267 F o (k : Int) σ' else g_X10_moveBox_b272 F o (k : Int) σ') ∧ (∀ q, q ≠ o + 1 → q ≠ o + 4 → q ≠ o + 5 → σ' q = σ q) ∧ σ' (o + 1) = mup1 (τ (o + 1)) (10 * k + 2) w := by
    intro tq w hw
    obtain ⟨σ', e1, e2⟩ := tail (mup τ (o + 1) (10 * k + 2) w) (fun q h1 h4 h5 => by rw [mup_off h1]; exact t0 q h1 h4 h5) (fun j hj h5 => by rw [mup_off (by omega)]; exact t4 j hj h5)
    refine ⟨σ', ?_, fun q h1 h4 h5 => by rw [e2 q h4 h5, mup_off h1]; exact t0 q h1 h4 h5, by rw [e2 _ (by omega) (by omega), mup_row]⟩
    unfold g_X10_moveBox_b207
    refine e_mob (zt_1 hk) ?_
    rw [t2, hw]
    exact e1
  unfold g_X10_moveBox_b190
  by_cases h0 : z = 0
  · obtain ⟨σ', e1, e2⟩ := tail τ t0 t4
    refine ⟨σ', e_t (by rw [mw_sV hby]; exact h0) e1, fun q h1 h4 h5 => by rw [e2 q h4 h5]; exact t0 q h1 h4 h5, ?_⟩
    have ew : xWay B z = B 2 := by unfold xWay; rw [if_neg (by omega), if_neg (by omega)]
    rw [e2 _ (by omega) (by omega), ew]
    funext j
    unfold mup1
    split
    · rename_i e
      rw [e, t2]
    · rfl
  · by_cases h1 : 0 < z
    · have ew : xWay B z = (B 2 + 1) % 4 := by unfold xWay; rw [if_pos h1]
      rw [ew]
      obtain ⟨σ', e1, e2⟩ := hturn 1 _ (mand3 (by omega) (by omega))
      exact ⟨σ', e_f (by rw [mw_sV hby]; exact h0) (e_f (by rw [mw_sV hby]; omega) e1), e2⟩
    · have ew : xWay B z = (B 2 + 3) % 4 := by unfold xWay; rw [if_neg h1, if_pos (by omega)]
      rw [ew]
      obtain ⟨σ', e1, e2⟩ := hturn 3 _ (mand3 (by omega) (by omega))
      exact ⟨σ', e_f (by rw [mw_sV hby]; exact h0) (e_t (by rw [mw_sV hby]; omega) e1), e2⟩
theorem z_b70 {lamp step : Int} (ho : 20 ≤ o) (hk : k < 6) (hF : 2000 ≤ F) (hp : σ o 3 = 3 ∨ σ o 3 = 8) (hp2 : (σ o 3).toNat = p) (hP : PlC σ p) (hlamp : σ o 5 = lamp) (hstep : σ o 4 = step) (hl : 0 ≤ lamp ∧ lamp ≤ 9) (hst : 0 ≤ step ∧ step ≤ 1000) (hB2 : 0 ≤ cB σ (o + 1) k 2 ∧ cB σ (o + 1) k 2 ≤ 3) (hB3 : 0 ≤ cB σ (o + 1) k 3 ∧ cB σ (o + 1) k 3 ≤ 999) (hB4 : 0 ≤ cB σ (o + 1) k 4 ∧ cB σ (o + 1) k 4 ≤ 99) :
    ∃ σ', g_X10_moveBox_b70 F o (k : Int) (xEye σ p lamp (cB σ (o + 1) k) (-1)) (xEye σ p lamp (cB σ (o + 1) k) 1) (xEye σ p lamp (cB σ (o + 1) k) 0) (k : Int) 4 (xLost σ p lamp (cB σ (o + 1) k)) σ = (if xGoV σ p lamp step (cB σ (o + 1) k) ≠ 0 then g_X10_moveBox_b267 F o (k : Int) σ' else g_X10_moveBox_b272 F o (k : Int) σ') ∧ (∀ q, q ≠ o + 1 → q ≠ o + 4 → q ≠ o + 5 → σ' q = σ q) ∧ σ' (o + 1) = mup1 (mup1 (σ (o + 1)) (10 * k + 4) (xLost σ p lamp (cB σ (o + 1) k))) (10 * k + 2) (xWay (cB σ (o + 1) k) (xBy σ p lamp step (cB σ (o + 1) k))) := by
  have hp8 : p ≤ 8 := by omega
  generalize hB : cB σ (o + 1) k = B at *
  have hBv : ∀ f, σ (o + 1) (10 * k + f) = B f := fun f => by rw [← hB]
  generalize hL : xEye σ p lamp B (-1) = L at *
  generalize hR : xEye σ p lamp B 1 = Rr at *
  generalize hM : xEye σ p lamp B 0 = M at *
  generalize hlo : xLost σ p lamp B = lo at *
  -- the memory behind the known values
  have key : ∀ τ : mMem, τ = mup (mup (mup (mup (mup (mup (mup σ (o + 1) (10 * k + 4) lo) (o + 4) 0 L) (o + 4) 1 Rr) (o + 4) 2 M) (o + 4) 3 lo) (o + 4) 4 step) (o + 4) 6 (B 3) → (∀ q, q ≠ o + 1 → q ≠ o + 4 → τ q = σ q) ∧ τ (o + 1) = mup1 (σ (o + 1)) (10 * k + 4) lo ∧ ∀ j, j < 7 → j ≠ 5 → τ (o + 4) j = xKn σ p lamp step B 0 j := by
    intro τ ht
    subst ht
    refine ⟨fun q h1 h4 => ?_, ?_, fun j hj h5 => ?_⟩
    · rw [mup_off h4, mup_off h4, mup_off h4, mup_off h4, mup_off h4, mup_off h4, mup_off h1]
    · rw [mup_off (by omega), mup_off (by omega), mup_off (by omega), mup_off (by omega), mup_off (by omega), mup_off (by omega), mup_row]
    · rw [mup_row, mup_row, mup_row, mup_row, mup_row, mup_row]
      unfold xKn
      rw [hL, hR, hM, hlo]
      rcases (by omega : j = 0 ∨ j = 1 ∨ j = 2 ∨ j = 3 ∨ j = 4 ∨ j = 6) with rfl | rfl | rfl | rfl | rfl | rfl <;> simp [mup1]
  have a0 : mup (mup (mup (mup σ (o + 1) (10 * k + 4) lo) (o + 4) 0 L) (o + 4) 1 Rr) (o + 4) 2 M (o + 1) (10 * k + 4) = lo := by
    rw [mup_off (by omega), mup_off (by omega), mup_off (by omega), mup_row, mup1_at rfl]
  have a1 : mup (mup (mup (mup (mup σ (o + 1) (10 * k + 4) lo) (o + 4) 0 L) (o + 4) 1 Rr) (o + 4) 2 M) (o + 4) 3 lo o 4 = step := by
    rw [mup_off (by omega), mup_off (by omega), mup_off (by omega), mup_off (by omega), mup_off (by omega), hstep]
  have a2 : mup (mup (mup (mup (mup (mup σ (o + 1) (10 * k + 4) lo) (o + 4) 0 L) (o + 4) 1 Rr) (o + 4) 2 M) (o + 4) 3 lo) (o + 4) 4 step (o + 1) (10 * k + 3) = B 3 := by
    rw [mup_off (by omega), mup_off (by omega), mup_off (by omega), mup_off (by omega), mup_off (by omega), mup_row, mup1_ne (by omega), hBv 3]
  have tl : ∃ σ', (mlet (Rr - L) (fun y323 => if (mup (mup (mup (mup (mup (mup (mup σ (o + 1) (10 * k + 4) lo) (o + 4) 0 L) (o + 4) 1 Rr) (o + 4) 2 M) (o + 4) 3 lo) (o + 4) 4 step) (o + 4) 6 (B 3)) o 3 = 3 ∨ (mup (mup (mup (mup (mup (mup (mup σ (o + 1) (10 * k + 4) lo) (o + 4) 0 L) (o + 4) 1 Rr) (o + 4) 2 M) (o + 4) 3 lo) (o + 4) 4 step) (o + 4) 6 (B 3)) o 3 = 8 then mob (g_X5_hasSteers F ((mup (mup (mup (mup (mup (mup (mup σ (o + 1) (10 * k + 4) lo) (o + 4) 0 L) (o + 4) 1 Rr) (o + 4) 2 M) (o + 4) 3 lo) (o + 4) 4 step) (o + 4) 6 (B 3)) o 3).toNat (mup (mup (mup (mup (mup (mup (mup σ (o + 1) (10 * k + 4) lo) (o + 4) 0 L) (o + 4) 1 Rr) (o + 4) 2 M) (o + 4) 3 lo) (o + 4) 4 step) (o + 4) 6 (B 3))) (fun r325 σ326 => if mw r325 = 0 then (g_X10_moveBox_b190 F o (k : Int) y323 σ326) else (if σ326 o 3 = 3 ∨ σ326 o 3 = 8 then if σ326 o 3 = 3 ∨ σ326 o 3 = 8 then if σ326 o 3 = 3 ∨ σ326 o 3 = 8 then mob (g_X2_valueOf F (o + 3) (σ326 o 3).toNat (σ326 (σ326 o 3).toNat 5) (σ326 (σ326 o 3).toNat 6) σ326) (fun r330 σ331 => g_X10_moveBox_b190 F o (k : Int) r330 σ331) else none else none else none)) else none)) = (if xGoV σ p lamp step B ≠ 0 then g_X10_moveBox_b267 F o (k : Int) σ' else g_X10_moveBox_b272 F o (k : Int) σ') ∧ (∀ q, q ≠ o + 1 → q ≠ o + 4 → q ≠ o + 5 → σ' q = σ q) ∧ σ' (o + 1) = mup1 (mup1 (σ (o + 1)) (10 * k + 4) lo) (10 * k + 2) (xWay B (xBy σ p lamp step B)) := by
    generalize hτ : mup (mup (mup (mup (mup (mup (mup σ (o + 1) (10 * k + 4) lo) (o + 4) 0 L) (o + 4) 1 Rr) (o + 4) 2 M) (o + 4) 3 lo) (o + 4) 4 step) (o + 4) 6 (B 3) = τ
    obtain ⟨k1, k2, k3⟩ := key τ hτ.symm
    have to : τ o = σ o := k1 _ (by omega) (by omega)
    have tp : τ p = σ p := k1 _ (by omega) (by omega)
    have tp4 : τ (p + 4) = σ (p + 4) := k1 _ (by omega) (by omega)
    obtain ⟨p1, p2, p3, p4, p5, p6, p7⟩ := id hP
    have t2 : τ (o + 1) (10 * k + 2) = B 2 := by rw [k2, mup1_ne (by omega), hBv 2]
    have fin : ∀ υ : mMem, (∀ q, q ≠ o + 5 → υ q = τ q) → ∃ σ', g_X10_moveBox_b190 F o (k : Int) (xBy σ p lamp step B) υ = (if xGoV σ p lamp step B ≠ 0 then g_X10_moveBox_b267 F o (k : Int) σ' else g_X10_moveBox_b272 F o (k : Int) σ') ∧ (∀ q, q ≠ o + 1 → q ≠ o + 4 → q ≠ o + 5 → σ' q = σ q) ∧ σ' (o + 1) = mup1 (mup1 (σ (o + 1)) (10 * k + 4) lo) (10 * k + 2) (xWay B (xBy σ p lamp step B)) := by
      intro υ hu
      obtain ⟨σ', e1, e2, e3⟩ := z_b190 (F := F) (o := o) (k := k) (p := p) (σ := σ) (τ := υ) (lamp := lamp) (step := step) (B := B) ho hk hF hp hp2 hP hl hst hB2 hB3 hB4 (fun q h1 h4 h5 => by rw [hu q h5]; exact k1 q h1 h4) (by rw [hu _ (by omega)]; exact t2) (fun j hj h5 => by rw [hu _ (by omega)]; exact k3 j hj h5)
      refine ⟨σ', e1, e2, ?_⟩
      rw [e3, hu _ (by omega), k2]
    rw [to]
    by_cases hs : σ p 5 < σ p 6
    · have hxb : xBy σ p lamp step B = (sRun (σ (p + 4)) (xKn σ p lamp step B 0) (σ p 6 - σ p 5).toNat (σ p 5).toNat []).headD 0 := by unfold xBy; rw [if_pos hs]
      have hkv := xKn_v (t := 0) hP hl hst hB4 hB3 (by omega)
      -- the stale place 5 of the known values is no number of the formula; it is small all the same
      rcases p6 with q | ⟨q1, q2, q3, ⟨c, q4⟩, q5⟩
      · omega
      · obtain ⟨υ, ev, ef⟩ := z_val (m := 5) (F := F) (o := o) (p := p) (σ := τ) (kn := xKn σ p lamp step B 0) ho hp8 hF (by rw [tp4]; exact Or.inr ⟨q1, q2, q3, ⟨c, q4⟩, q5⟩) hs (fun j hj => k3 j (by omega) (by omega)) (fun j hj => hkv j (by omega))
        rw [tp4, ← hxb] at ev
        obtain ⟨σ', e1, e2, e3⟩ := fin υ ef
        refine ⟨σ', ?_, e2, e3⟩
        refine e_let (e_t hp ?_)
        rw [hp2]
        refine e_mob (z_hasSteers (by rw [tp]; exact ⟨p5.1, p5.2.1⟩)) ?_
        refine e_f (by rw [mw_mb, mb_0, tp]; exact fun q => q hs) ?_
        rw [to]
        refine e_t hp (e_t hp (e_t hp ?_))
        rw [hp2, tp]
        exact e_mob ev e1
    · have hxb : xBy σ p lamp step B = Rr - L := by unfold xBy; rw [if_neg hs, hR, hL]
      obtain ⟨σ', e1, e2, e3⟩ := fin τ (fun _ _ => rfl)
      refine ⟨σ', ?_, e2, e3⟩
      refine e_let (e_t hp ?_)
      rw [hp2]
      refine e_mob (z_hasSteers (by rw [tp]; exact ⟨p5.1, p5.2.1⟩)) ?_
      refine e_t (by rw [mw_mb, mb_0, tp]; exact hs) ?_
      rw [← hxb]
      exact e1
  obtain ⟨σ', e1, e2, e3⟩ := tl
  refine ⟨σ', ?_, e2, e3⟩
  unfold g_X10_moveBox_b70
  refine e_mob (zs_4 hk) ?_
  refine e_t (by decide) (e_mem (e_t (by decide) (e_mem (e_t (by decide) (e_mem ?_)))))
  rw [show (mw 0).toNat = 0 by decide, show (mw 1).toNat = 1 by decide, show (mw 2).toNat = 2 by decide]
  refine e_mob (zo_4 hk) ?_
  rw [a0]
  refine e_t (by decide) (e_mem ?_)
  rw [show (mw 3).toNat = 3 by decide]
  refine e_t (by decide) (e_mem ?_)
  rw [show (mw 4).toNat = 4 by decide, a1]
  refine e_mob (zo_3 hk) ?_
  rw [a2]
  refine e_t (by decide) (e_mem ?_)
  rw [show (mw 6).toNat = 6 by decide]
  exact e1
end MV
