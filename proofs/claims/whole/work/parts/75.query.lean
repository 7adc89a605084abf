/-! LAYER 2: a query, by tries -/
def QC (π : mMem) (p n : Nat) (lamp step delay : Int) (A : Nat → Nat → Int) : Prop := (n ≤ 6 ∧ (p = 3 ∨ p = 8)) ∧ PlC π p ∧ π p 11 = (n : Int) ∧ (0 ≤ lamp ∧ lamp ≤ 9) ∧ (0 ≤ step ∧ step ≤ 999) ∧ (0 ≤ delay ∧ delay ≤ 9) ∧ ∀ j, j < n → BR (π p 9) (π p 10) (A j)
def QR (π : mMem) (p : Nat) (step delay : Int) (τ0 : mMem) : Prop := PlR π p τ0 ∧ sml (τ0 86 57) ∧ sml (τ0 86 60) ∧ τ0 86 62 = delay ∧ τ0 110 0 = step
/-- the class has changed no more than its world of tries -/
def FC (σ' σ : mMem) : Prop := ∀ q, ¬ (29 ≤ q ∧ q ≤ 34) → σ' q = σ q
theorem FC.peq {σ' σ : mMem} {p : Nat} (hp : p = 3 ∨ p = 8) (h : FC σ' σ) : PEq σ' σ p := ⟨h p (by omega), h (p + 1) (by omega), h (p + 4) (by omega)⟩
theorem FC.tr {a b c : mMem} (h : FC a b) (g : FC b c) : FC a c := fun q hq => (h q hq).trans (g q hq)
theorem QC.c {F p n m : Nat} {π σ σ0 : mMem} {lamp step delay made : Int} {A : Nat → Nat → Int} (q : QC π p n lamp step delay A) (hF : 2000 ≤ F) (hπ : PEq σ0 π p) (hst : step + m + 1 ≤ 999) (hmd : 0 ≤ made ∧ made ≤ 1000) (hm : ∀ k : Nat, k < n → (((k : Int) * delay ≤ made) ↔ ((k : Int) * delay ≤ (m : Int)))) (h : CR π p n lamp step delay A m 29 σ σ0) :
    ∃ σ', g_X10_pass F 29 made delay σ = some (0, σ') ∧ CR π p n lamp step delay A (m + 1) 29 σ' σ0 ∧ (∀ j, j < n → σ' 31 j = xWf π p lamp (step + m) m delay (xIt π p n lamp step delay A m) j) ∧ (∀ j, j < n → σ' 30 (10 * j + 9) = σ 30 (10 * j + 9) + xKf π p lamp (step + m) m delay (xIt π p n lamp step delay A m) j) ∧ σ' 29 6 = xSum (xWf π p lamp (step + m) m delay (xIt π p n lamp step delay A m)) n ∧ σ' 29 7 = xSum (xKf π p lamp (step + m) m delay (xIt π p n lamp step delay A m)) n :=
  zc_try (o := 29) q.1.1 hF q.1.2 (by decide) hπ q.2.1 q.2.2.1 q.2.2.2.1 ⟨q.2.2.2.2.1.1, hst⟩ q.2.2.2.2.2.1 hmd hm q.2.2.2.2.2.2 h
theorem QC.r {F p n m : Nat} {π τ τ0 : mMem} {lamp step delay : Int} {A : Nat → Nat → Int} (q : QC π p n lamp step delay A) (hF : 2000 ≤ F) (hr : QR π p step delay τ0) (hst : step + m ≤ 999) (h : LR π p n lamp step delay A m τ τ0) :
    ∃ τ', g_X12_passes F 1 (m : Int) τ = some (0, τ') ∧ LR π p n lamp step delay A (m + 1) τ' τ0 ∧ τ' 86 63 = xBits (xWf π p lamp (step + m) m delay (xIt π p n lamp step delay A m)) n ∧ τ' 86 64 = xBits (xKf π p lamp (step + m) m delay (xIt π p n lamp step delay A m)) n :=
  zr_try q.1.1 hF hr.1 q.2.1 q.2.2.1 q.2.2.2.1 ⟨q.2.2.2.2.1.1, hst⟩ hr.2.1 hr.2.2.1 hr.2.2.2.1 q.2.2.2.2.2.1 q.2.2.2.2.2.2 h
theorem LR.s0 {p n m : Nat} {π τ τ0 : mMem} {lamp step delay step' : Int} {A : Nat → Nat → Int} (h : LR π p n lamp step delay A m τ τ0) (h4 : τ0 110 0 = step') : τ 110 0 = step' := by rw [h.1.2.2.2.1 110 (by omega) 0 (by decide), h4]
/-- what a query on copies has at hand, and what it leaves -/
theorem Rel.q {σ : mMem} {p s : Nat} {N : Int} (r : Rel σ p s N) : ∃ n : Nat, QC σ p n (σ 20 5) (σ 20 4) 0 (cB σ 21) ∧ σ 20 3 = (p : Int) ∧ (∀ j, j < n → BEq (cB σ 21 j) (rB σ 0 j)) ∧ (∀ j, j < n → 0 ≤ σ 112 j ∧ σ 112 j ≤ 80) ∧ ∀ σ1, FC σ1 σ → QR σ p (σ 20 4) 0 σ1 ∧ (∀ F, 2000 ≤ F → ∃ τ', g_X12_copies F 1 0 σ1 = some (0, τ') ∧ LR σ p n (σ 20 5) (σ 20 4) 0 (cB σ 21) 0 τ' σ1) ∧ ∀ τ', TryF τ' σ1 → Rel τ' p s (N + 1) := by
  obtain ⟨n, n6, n11, h3, hE, hA, hA2, hc, hK⟩ := r.tries
  obtain ⟨hp, h08, h08n, h20, h20n, hP, hR, h11, h9, h10, hB, hst, hla, h57, h60, h62⟩ := r.now
  refine ⟨n, ⟨⟨n6, hp⟩, hP, n11, hla.2, hst.2, by decide, hA⟩, h3, hE, hc, fun σ1 f => ⟨⟨hR.same (fun q q1 q2 => f q (by omega)) (by rw [f 86 (by decide)]), by rw [f 86 (by decide), h57]; decide, by rw [f 86 (by decide), h60]; decide, by rw [f 86 (by decide), h62], by rw [f 110 (by decide), hst.1]⟩, fun F hF => ?_, fun τ' t => ?_⟩⟩
  · refine zr_startA hF n6 (by rw [f 110 (by decide), hst.1]) (by rw [f 111 (by decide), hla.1]) (T := σ 54 2) (ring := σ 76) (hK.congr (by rw [f 117 (by decide)]) (fun j _ _ => by rw [f 118 (by decide)])) (fun j hj => by rw [f 112 (by decide)]; exact hc j hj) (fun j hj => ?_)
    have e : rB σ1 0 j = rB σ 0 j := rB_copy (f 86 (by decide)) (f 94 (by decide)) (f 95 (by decide)) (f 96 (by decide)) (fun q q1 q2 => by rw [f q (by omega)])
    rw [e]
    exact hE j hj
  · have w := wld_rd (o := 29) (Or.inl rfl) (fun q hq => f q hq)
    have r1 := r.same (N' := N + 1) (by omega) w.1 w.2
    have t2 := t.rd
    exact r1.same (by omega) t2.1 t2.2
theorem a_round {F : Nat} {σ : mMem} {p s : Nat} {N x : Int} (hF : 2000 ≤ F) (hx : i32 x) (r : Rel σ p s N) : Alk (g_X11_round F x) (g_X12_round F x) σ N := by
  have sm := r.same (N' := N + 1) (by omega) (fun _ _ _ => rfl) (fun _ _ _ => rfl)
  obtain ⟨hp, h08, h08n, h20, h20n, hP, hR, h11, h9, h10, hB, hst, hla, h57, h60, h62⟩ := r.now
  obtain ⟨n, q, h3, hE, hc, hq⟩ := r.q
  have n11 := q.2.2.1
  have ec : ∀ X, (if mw (mb (0 ≤ x ∧ x < σ p 11)) = 0 then (g_X11_round_b27 F (-1) σ) else (mob (g_X0_stepsRound F 20 x σ) (fun r4 σ5 => g_X11_round_b27 F r4 σ5))) = X → g_X11_round F x σ = X := by
    intro X hX
    unfold g_X11_round
    rw [h08n]
    exact e_t h08 (e_mob (zc_hasBox hx h11) hX)
  by_cases c : 0 ≤ x ∧ x < σ p 11
  · obtain ⟨b, eb⟩ : ∃ b : Nat, x = (b : Int) := ⟨x.toNat, by omega⟩
    subst eb
    have hb : b < n := by omega
    obtain ⟨σ1, a1, a2⟩ := zc_round (F := F) (p := p) (n := n) (b := b) (σ := σ) (lamp := σ 20 5) (step := σ 20 4) (last := min 80 (999 - σ 20 4)) hF q.1.1 hb hp hP n11 h3 rfl rfl hla.2 hst.2 q.2.2.2.2.2.2 rfl
    obtain ⟨⟨u1, u2, u3, u4, u5⟩, us, uf⟩ := hq σ1 a2
    obtain ⟨υ, s1, s2⟩ := us F hF
    have e21 : σ1 112 = σ 112 := a2 112 (by decide)
    have e0 : ∀ j, rB σ1 0 j = rB σ 0 j := fun j => rB_copy (a2 86 (by decide)) (a2 94 (by decide)) (a2 95 (by decide)) (a2 96 (by decide)) (fun q q1 q2 => by rw [a2 q (by omega)])
    obtain ⟨τ', t1, t2⟩ := zr_round (F := F) (p := p) (n := n) (b := b) (π := σ) (τ := σ1) (lamp := σ 20 5) (step := σ 20 4) (last := min 80 (999 - σ 20 4)) (A := cB σ 21) hF q.1.1 hb u1 hP n11 u5 hla.2 hst.2 u2 u3 u4 q.2.2.2.2.2.2 (fun j hj => by rw [e0]; exact hE j hj) (fun j hj => by rw [e21]; exact hc j hj) rfl υ s2
    rw [mb_t c] at ec
    refine ⟨_, σ1, τ', p, s, ec _ (e_f (by decide) (e_mob a1 rfl)), ?_, uf τ' t2⟩
    unfold g_X12_round
    refine e_mob (zr_isBox hx u1 h11) ?_
    rw [mb_t c]
    exact e_t (by decide) (e_mob s1 t1)
  · rw [mb_f c] at ec
    refine ⟨-1, σ, σ, p, s, ec _ (e_t (by decide) rfl), ?_, sm⟩
    unfold g_X12_round
    refine e_mob (zr_isBox hx hR h11) ?_
    rw [mb_f c]
    exact e_f (by decide) rfl
