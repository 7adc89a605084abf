/-! LAYER 2: spaced -/
/-- what tries with other eyes, wheels or delays leave as it was -/
def TryG (τ τ0 : mMem) : Prop := (∀ q, q < 110 → q ≠ 86 → τ q = τ0 q) ∧ (∀ q, 120 < q → τ q = τ0 q) ∧ (∀ j, (j < 57 ∨ 64 < j) → τ 86 j = τ0 86 j) ∧ (∀ q, (q = 110 ∨ q = 111 ∨ q = 117) → ∀ j, j ≠ 1 → τ q j = τ0 q j) ∧ (∀ q, 112 ≤ q → q ≤ 116 → ∀ j, (j < 6 ∨ 12 ≤ j) → τ q j = τ0 q j) ∧ ∀ j, (j < 240 ∨ 480 ≤ j) → τ 118 j = τ0 118 j
theorem TryF.g {τ τ0 : mMem} (h : TryF τ τ0) : TryG τ τ0 := ⟨h.1, h.2.1, fun j hj => h.2.2.1 j (by omega) (by omega), h.2.2.2⟩
theorem TryG.tr {a b c : mMem} (h : TryG a b) (g : TryG b c) : TryG a c :=
  ⟨fun q h1 h2 => (h.1 q h1 h2).trans (g.1 q h1 h2), fun q h1 => (h.2.1 q h1).trans (g.2.1 q h1), fun j hj => (h.2.2.1 j hj).trans (g.2.2.1 j hj), fun q hq j hj => (h.2.2.2.1 q hq j hj).trans (g.2.2.2.1 q hq j hj), fun q h1 h2 j hj => (h.2.2.2.2.1 q h1 h2 j hj).trans (g.2.2.2.2.1 q h1 h2 j hj), fun j hj => (h.2.2.2.2.2 j hj).trans (g.2.2.2.2.2 j hj)⟩
theorem TryG.rfl' {a : mMem} : TryG a a := ⟨fun _ _ _ => rfl, fun _ _ => rfl, fun _ _ => rfl, fun _ _ _ _ => rfl, fun _ _ _ _ _ => rfl, fun _ _ => rfl⟩
theorem TryG.up {τ τ0 : mMem} {j : Nat} {z : Int} (h : TryG τ τ0) (hj : 57 ≤ j ∧ j ≤ 64) : TryG (mup τ 86 j z) τ0 :=
  ⟨fun q h1 h2 => by rw [mup_off h2]; exact h.1 q h1 h2, fun q h1 => by rw [mup_off (by omega)]; exact h.2.1 q h1, fun i hi => by rw [mup_ne (by omega)]; exact h.2.2.1 i hi, fun q hq i hi => by rw [mup_off (by omega)]; exact h.2.2.2.1 q hq i hi, fun q h1 h2 i hi => by rw [mup_off (by omega)]; exact h.2.2.2.2.1 q h1 h2 i hi, fun i hi => by rw [mup_off (by omega)]; exact h.2.2.2.2.2 i hi⟩
/-- made whole again it is a try as any -/
theorem TryG.f {τ τ0 : mMem} (h : TryG τ τ0) (h57 : τ 86 57 = τ0 86 57) (h60 : τ 86 60 = τ0 86 60) (h62 : τ 86 62 = τ0 86 62) : (∀ q j, Rd q j → τ q j = τ0 q j) ∧ (∀ q j, Rs q j → τ q j = τ0 q j) := by
  obtain ⟨f1, f2, f3, f4, f5, f6⟩ := h
  have t : TryF (mup (mup (mup τ 86 58 (τ0 86 58)) 86 59 (τ0 86 59)) 86 61 (τ0 86 61)) τ0 := by
    refine ⟨fun q h1 h2 => by rw [mup_off h2, mup_off h2, mup_off h2]; exact f1 q h1 h2, fun q h1 => by rw [mup_off (by omega), mup_off (by omega), mup_off (by omega)]; exact f2 q h1, fun j j1 j2 => ?_, fun q hq i hi => by rw [mup_off (by omega), mup_off (by omega), mup_off (by omega)]; exact f4 q hq i hi, fun q h1 h2 i hi => by rw [mup_off (by omega), mup_off (by omega), mup_off (by omega)]; exact f5 q h1 h2 i hi, fun i hi => by rw [mup_off (by omega), mup_off (by omega), mup_off (by omega)]; exact f6 i hi⟩
    by_cases e61 : j = 61
    · rw [mup_at rfl e61, e61]
    · rw [mup_ne (by omega)]
      by_cases e59 : j = 59
      · rw [mup_at rfl e59, e59]
      · rw [mup_ne (by omega)]
        by_cases e58 : j = 58
        · rw [mup_at rfl e58, e58]
        · rw [mup_ne (by omega)]
          rcases (by omega : j = 57 ∨ j = 60 ∨ j = 62 ∨ (j < 57 ∨ 64 < j)) with e | e | e | e
          · rw [e, h57]
          · rw [e, h60]
          · rw [e, h62]
          · exact f3 j e
  have rd := t.rd
  refine ⟨fun q j hq => ?_, fun q j hq => ?_⟩
  · rw [← rd.1 q j hq, mup_ne, mup_ne, mup_ne] <;> rintro ⟨rfl, rfl⟩ <;> revert hq <;> decide
  · rw [← rd.2 q j hq, mup_ne, mup_ne, mup_ne] <;> rintro ⟨rfl, rfl⟩ <;> revert hq <;> decide
/-- what such tries begin from -/
theorem Rel.g {σ σ1 τ : mMem} {p s n : Nat} {N : Int} (r : Rel σ p s N) (hn : σ p 11 = (n : Int)) (f : FC σ1 σ) (g : TryG τ σ1) : PlR σ p τ ∧ τ 110 0 = σ 20 4 ∧ τ 111 0 = σ 20 5 ∧ KRel τ 0 (σ 54 2) (σ 76) ∧ (∀ j, j < n → τ 112 j = σ 112 j ∧ 0 ≤ τ 112 j ∧ τ 112 j ≤ 80) ∧ (τ 86 57 = -1 → τ 86 60 = -1 → ∀ j, j < n → BEq (cB σ 21 j) (rB τ 0 j)) ∧ (τ 86 57 = -1 → τ 86 60 = -1 → τ 86 62 = 0 → Rel τ p s (N + 1)) := by
  obtain ⟨n', n6, n11, h3, hE, hA, hA2, hc, hK⟩ := r.tries
  have en : n' = n := by omega
  subst en
  obtain ⟨hp, h08, h08n, h20, h20n, hP, hR, h11, h9, h10, hB, hst, hla, h57, h60, h62⟩ := r.now
  have g13 : τ 86 13 = σ 86 13 := by rw [g.2.2.1 13 (by decide), f 86 (by decide)]
  have gq : ∀ q, q < 110 → q ≠ 86 → ¬ (29 ≤ q ∧ q ≤ 34) → τ q = σ q := fun q q1 q2 q3 => by rw [g.1 q q1 q2, f q q3]
  have g12 : ∀ q, 112 ≤ q → q ≤ 116 → ∀ j, j < 6 → τ q j = σ q j := fun q q1 q2 j hj => by rw [g.2.2.2.2.1 q q1 q2 j (by omega), f q (by omega)]
  refine ⟨hR.same (fun q q1 q2 => gq q (by omega) (by omega) (by omega)) g13, by rw [g.2.2.2.1 110 (by decide) 0 (by decide), f 110 (by decide), hst.1], by rw [g.2.2.2.1 111 (by decide) 0 (by decide), f 111 (by decide), hla.1], hK.congr (by rw [g.2.2.2.1 117 (by decide) 0 (by decide), f 117 (by decide)]) (fun j _ _ => by rw [g.2.2.2.2.2 j (by omega), f 118 (by decide)]), fun j hj => ?_, fun e57 e60 j hj => ?_, fun e57 e60 e62 => ?_⟩
  · rw [g12 112 (by decide) (by decide) j (by omega)]
    exact ⟨rfl, hc j hj⟩
  · have e : rB τ 0 j = rB σ 0 j := rB_p h57 e57 h60 e60 g13 (gq 94 (by decide) (by decide) (by decide)) (gq 95 (by decide) (by decide) (by decide)) (gq 96 (by decide) (by decide) (by decide)) (fun q q1 q2 => g12 q q1 q2 _ (by omega))
    rw [e]
    exact hE j hj
  · have w := wld_rd (o := 29) (Or.inl rfl) (fun q hq => f q hq)
    have r1 := r.same (N' := N + 1) (by omega) w.1 w.2
    have t2 := g.f (by rw [e57, f 86 (by decide), h57]) (by rw [e60, f 86 (by decide), h60]) (by rw [e62, f 86 (by decide), h62])
    exact r1.same (by omega) t2.1 t2.2
theorem j_sp {F p n k : Nat} {π σ0 : mMem} {lamp step : Int} {D : Nat} {A : Nat → Nat → Int} (hF : 2000 ≤ F) (q : QC π p n lamp step (D : Int) A) (hσ : PEq σ0 π p) (hk : step + k ≤ 999 ∧ k ≤ 80) : ∀ (d m fuel : Nat) (υ : mMem), d + m = k → d < fuel → CR π p n lamp step (D : Int) A m 29 υ σ0 → ∃ ok σ', (ok = 0 ∨ ok = 1) ∧ FC σ' σ0 ∧ (∀ k2, g_X0_leastDelay_h22 F 20 k2 fuel (k : Int) (D : Int) 1 (m : Int) υ = g_X0_leastDelay_b66 F 20 k2 (k : Int) (D : Int) ok σ') ∧ ∀ τ0 τ, QR π p step (D : Int) τ0 → LR π p n lamp step (D : Int) A m τ τ0 → ∃ τ', TryF τ' τ0 ∧ ∀ k17 x2, g_X12_spaced_h45 F k17 fuel (k : Int) x2 (D : Int) 1 (m : Int) τ = g_X12_spaced_b83 F k17 (k : Int) x2 (D : Int) ok τ' := by
  have n6 := q.1.1
  have hs := q.2.2.2.2.1
  intro d
  induction d with
  | zero =>
    intro m fuel υ h1 h2 h
    obtain ⟨f, rfl⟩ : ∃ f, fuel = f + 1 := ⟨fuel - 1, by omega⟩
    refine ⟨1, υ, Or.inr rfl, h.1, fun k2 => ?_, fun τ0 τ hr hL => ⟨τ, hL.1, fun k17 x2 => ?_⟩⟩
    · conv => lhs; unfold g_X0_leastDelay_h22
      exact e_t (by rw [mw_id (by omega) (by omega), mw_id (by omega) (by omega)]; omega) rfl
    · conv => lhs; unfold g_X12_spaced_h45
      exact e_t (by rw [mw_id (by omega) (by omega), mw_id (by omega) (by omega)]; omega) rfl
  | succ d ih =>
    intro m fuel υ h1 h2 h
    obtain ⟨f, rfl⟩ : ∃ f, fuel = f + 1 := ⟨fuel - 1, by omega⟩
    obtain ⟨υ1, a1, a2, -, -, -, a7⟩ := q.c (F := F) (made := (m : Int)) hF hσ (by omega) (by omega) (fun _ _ => Iff.rfl) h
    have zk := xBits_zero (n := n) (fun j _ => xKf01 (π := π) (p := p) (lamp := lamp) (step := step + m) (made := (m : Int)) (delay := (D : Int)) (A := xIt π p n lamp step (D : Int) A m) (k := j))
    have sk := xSum_rng (n := n) (fun j _ => xKf01 (π := π) (p := p) (lamp := lamp) (step := step + m) (made := (m : Int)) (delay := (D : Int)) (A := xIt π p n lamp step (D : Int) A m) (k := j))
    have bk := xBits_rng (n := n) (fun j _ => xKf01 (π := π) (p := p) (lamp := lamp) (step := step + m) (made := (m : Int)) (delay := (D : Int)) (A := xIt π p n lamp step (D : Int) A m) (k := j))
    have p6 := pow_le6 n6
    rw [← a7] at zk sk
    by_cases c : υ1 29 7 = 0
    · obtain ⟨ok, σ', o1, o2, o3, o4⟩ := ih (m + 1) f υ1 (by omega) (by omega) a2
      refine ⟨ok, σ', o1, o2, fun k2 => ?_, fun τ0 τ hr hL => ?_⟩
      · rw [← o3 k2]
        conv => lhs; unfold g_X0_leastDelay_h22
        refine e_f (by rw [mw_id (by omega) (by omega), mw_id (by omega) (by omega)]; omega) (e_f (by decide) (e_mob a1 ?_))
        rw [c]
        refine e_f (by decide) ?_
        unfold g_X0_leastDelay_b58
        rw [show ((m + 1 : Nat) : Int) = (m : Int) + 1 by omega]
      · obtain ⟨τ1, b1, b2, -, b4⟩ := q.r (F := F) hF hr (by omega) hL
        obtain ⟨τ', u1, u2⟩ := o4 τ0 τ1 hr b2
        refine ⟨τ', u1, fun k17 x2 => ?_⟩
        rw [← u2 k17 x2]
        conv => lhs; unfold g_X12_spaced_h45
        refine e_f (by rw [mw_id (by omega) (by omega), mw_id (by omega) (by omega)]; omega) (e_f (by decide) (e_mob b1 ?_))
        rw [b4, zk.1.mpr c]
        refine e_f (by decide) ?_
        unfold g_X12_spaced_b75
        rw [show ((m + 1 : Nat) : Int) = (m : Int) + 1 by omega]
    · obtain ⟨g, rfl⟩ : ∃ g, f = g + 1 := ⟨f - 1, by omega⟩
      refine ⟨0, υ1, Or.inl rfl, a2.1, fun k2 => ?_, fun τ0 τ hr hL => ?_⟩
      · unfold g_X0_leastDelay_h22
        refine e_f (by rw [mw_id (by omega) (by omega), mw_id (by omega) (by omega)]; omega) (e_f (by decide) (e_mob a1 ?_))
        refine e_t (by rw [mw_id (by omega) (by omega)]; exact c) ?_
        unfold g_X0_leastDelay_b58 g_X0_leastDelay_h22
        by_cases c2 : mw (k : Int) ≤ mw ((m : Int) + 1)
        · exact e_t c2 rfl
        · exact e_f c2 (e_t (by decide) rfl)
      · obtain ⟨τ1, b1, b2, -, b4⟩ := q.r (F := F) hF hr (by omega) hL
        refine ⟨τ1, b2.1, fun k17 x2 => ?_⟩
        unfold g_X12_spaced_h45
        refine e_f (by rw [mw_id (by omega) (by omega), mw_id (by omega) (by omega)]; omega) (e_f (by decide) (e_mob b1 ?_))
        refine e_t (by rw [mw_id (by omega) (by omega), b4]; exact fun e => c (zk.1.mp e)) ?_
        unfold g_X12_spaced_b75 g_X12_spaced_h45
        by_cases c2 : mw (k : Int) ≤ mw ((m : Int) + 1)
        · exact e_t c2 rfl
        · exact e_f c2 (e_t (by decide) rfl)
theorem j_spo {F p s n k : Nat} {σ : mMem} {N : Int} (hF : 2000 ≤ F) (r : Rel σ p s N) (q : QC σ p n (σ 20 5) (σ 20 4) 0 (cB σ 21)) (h3 : σ 20 3 = (p : Int)) (hk : σ 20 4 + k ≤ 999 ∧ k ≤ 80) : ∀ (d D fuel : Nat) (υ : mMem), d + D = 10 → d < fuel → FC υ σ → ∃ x σ', g_X0_leastDelay_h2 F 20 fuel (k : Int) (D : Int) υ = some (x, σ') ∧ FC σ' σ ∧ ∀ σ1 τ, FC σ1 σ → TryG τ σ1 → τ 86 57 = -1 → τ 86 60 = -1 → ∃ τ', g_X12_spaced_h17 F fuel (k : Int) (-1) (D : Int) τ = some (x, τ') ∧ TryG τ' σ1 ∧ τ' 86 57 = -1 ∧ τ' 86 60 = -1 ∧ τ' 86 62 = 0 := by
  have n6 := q.1.1
  have hp := q.1.2
  have hs := q.2.2.2.2.1
  intro d
  induction d with
  | zero =>
    intro D fuel υ h1 h2 h
    obtain ⟨f, rfl⟩ : ∃ f, fuel = f + 1 := ⟨fuel - 1, by omega⟩
    refine ⟨-1, υ, ?_, h, fun σ1 τ fc g e57 e60 => ⟨mup τ 86 62 0, ?_, g.up (by decide), by rw [mup_ne (by decide)]; exact e57, by rw [mup_ne (by decide)]; exact e60, mup_at rfl rfl⟩⟩
    · unfold g_X0_leastDelay_h2
      exact e_t (by rw [mw_id (by omega) (by omega), mw_id (by omega) (by omega)]; omega) rfl
    · unfold g_X12_spaced_h17 g_X12_spaced_b96
      exact e_t (by rw [mw_id (by omega) (by omega), mw_id (by omega) (by omega)]; omega) rfl
  | succ d ih =>
    intro D fuel υ h1 h2 h
    obtain ⟨f, rfl⟩ : ∃ f, fuel = f + 1 := ⟨fuel - 1, by omega⟩
    have qD : QC σ p n (σ 20 5) (σ 20 4) (D : Int) (cB σ 21) := ⟨q.1, q.2.1, q.2.2.1, q.2.2.2.1, q.2.2.2.2.1, by omega, q.2.2.2.2.2.2⟩
    have e20 : υ 20 = σ 20 := h 20 (by decide)
    have e21 : υ 21 = σ 21 := h 21 (by decide)
    obtain ⟨υ0, s1, s2, -⟩ := zc_start (F := F) (p := p) (n := n) (o := 29) (σ := υ) (π := σ) (lamp := σ 20 5) (step := σ 20 4) (delay := (D : Int)) (Or.inl rfl) n6 hp (by rw [e20]; exact h3) (by rw [e20]) (by rw [e20])
    have ecb : cB υ 21 = cB σ 21 := by
      funext j g
      dsimp only [cB]
      rw [e21]
    rw [ecb] at s2
    obtain ⟨ok, υ1, o1, o2, o3, o4⟩ := j_sp (F := F) (k := k) (D := D) hF qD (h.peq hp) hk k 0 F υ0 (by omega) (by omega) s2
    have o5 : FC υ1 σ := o2.tr h
    have hc : ∀ X, (if mw ok = 0 then (g_X0_leastDelay_h2 F 20 f (k : Int) ((D + 1 : Nat) : Int) υ1) else (some ((D : Int), υ1))) = X → g_X0_leastDelay_h2 F 20 (f + 1) (k : Int) (D : Int) υ = X := by
      intro X hX
      unfold g_X0_leastDelay_h2
      refine e_f (by rw [mw_id (by omega) (by omega), mw_id (by omega) (by omega)]; omega) (e_mob s1 ((o3 _).trans ?_))
      unfold g_X0_leastDelay_b66
      rw [← hX, show ((D + 1 : Nat) : Int) = (D : Int) + 1 by omega]
    have hl : ∀ σ1 τ, FC σ1 σ → TryG τ σ1 → τ 86 57 = -1 → τ 86 60 = -1 → ∃ τ1, (TryG τ1 σ1 ∧ τ1 86 57 = -1 ∧ τ1 86 60 = -1) ∧ g_X12_spaced_h17 F (f + 1) (k : Int) (-1) (D : Int) τ = (if mw ok = 0 then (g_X12_spaced_h17 F f (k : Int) (-1) ((D + 1 : Nat) : Int) τ1) else (g_X12_spaced_h17 F f (k : Int) (D : Int) ((D + 1 : Nat) : Int) τ1)) := by
      intro σ1 τ fc g e57 e60
      have g2 : TryG (mup τ 86 62 (D : Int)) σ1 := g.up (by decide)
      obtain ⟨w1, w2, w3, w4, w5, w6, -⟩ := r.g q.2.2.1 fc g2
      have e57' : mup τ 86 62 (D : Int) 86 57 = -1 := by rw [mup_ne (by decide)]; exact e57
      have e60' : mup τ 86 62 (D : Int) 86 60 = -1 := by rw [mup_ne (by decide)]; exact e60
      obtain ⟨τ0, v1, v2⟩ := zr_startA (F := F) (p := p) (n := n) (π := σ) (τ := mup τ 86 62 (D : Int)) (lamp := σ 20 5) (step := σ 20 4) (delay := (D : Int)) (A := cB σ 21) hF n6 w2 w3 w4 (fun j hj => (w5 j hj).2) (w6 e57' e60')
      obtain ⟨τ1, u1, u2⟩ := o4 (mup τ 86 62 (D : Int)) τ0 ⟨w1, by rw [e57']; decide, by rw [e60']; decide, mup_at rfl rfl, w2⟩ v2
      refine ⟨τ1, ⟨u1.g.tr g2, by rw [u1.2.2.1 57 (by decide) (by decide)]; exact e57', by rw [u1.2.2.1 60 (by decide) (by decide)]; exact e60'⟩, ?_⟩
      conv => lhs; unfold g_X12_spaced_h17
      refine e_f (by rw [mw_id (by omega) (by omega), mw_id (by omega) (by omega)]; omega) (e_f (fun e => e rfl) (e_mem (e_mob v1 ((u2 _ _).trans ?_))))
      unfold g_X12_spaced_b83 g_X12_spaced_b90
      rw [show ((D + 1 : Nat) : Int) = (D : Int) + 1 by omega]
    rcases o1 with rfl | rfl
    · obtain ⟨x, σ', t1, t2, t3⟩ := ih (D + 1) f υ1 (by omega) (by omega) o5
      refine ⟨x, σ', hc _ ((if_pos (by decide)).trans t1), t2, fun σ1 τ fc g e57 e60 => ?_⟩
      obtain ⟨τ1, ⟨y1, y2, y3⟩, y4⟩ := hl σ1 τ fc g e57 e60
      obtain ⟨τ', z1, z2⟩ := t3 σ1 τ1 fc y1 y2 y3
      exact ⟨τ', y4.trans ((if_pos (by decide)).trans z1), z2⟩
    · refine ⟨(D : Int), υ1, hc _ (if_neg (by decide)), o5, fun σ1 τ fc g e57 e60 => ?_⟩
      obtain ⟨τ1, ⟨y1, y2, y3⟩, y4⟩ := hl σ1 τ fc g e57 e60
      refine ⟨mup τ1 86 62 0, y4.trans ((if_neg (by decide)).trans ?_), y1.up (by decide), by rw [mup_ne (by decide)]; exact y2, by rw [mup_ne (by decide)]; exact y3, mup_at rfl rfl⟩
      obtain ⟨g', rfl⟩ : ∃ g', f = g' + 1 := ⟨f - 1, by omega⟩
      unfold g_X12_spaced_h17 g_X12_spaced_b96
      by_cases c9 : mw 9 < mw ((D + 1 : Nat) : Int)
      · exact e_t c9 rfl
      · exact e_f c9 (e_t (by rw [mw_id (by omega) (by omega), mw_id (by omega) (by omega)]; omega) rfl)
theorem a_spaced {F : Nat} {σ : mMem} {p s : Nat} {N x : Int} (hF : 2000 ≤ F) (hx : i32 x) (r : Rel σ p s N) : Alk (g_X11_spaced F x) (g_X12_spaced F x) σ N := by
  have sm := r.same (N' := N + 1) (by omega) (fun _ _ _ => rfl) (fun _ _ _ => rfl)
  obtain ⟨hp, h08, h08n, h20, h20n, hP, hR, h11, h9, h10, hB, hst, hla, h57, h60, h62⟩ := r.now
  obtain ⟨n, q, h3, -, -, -⟩ := r.q
  unfold Alk g_X11_spaced g_X12_spaced g_X11_spaced_b30
  by_cases c : 1 ≤ x ∧ x ≤ 80 ∧ σ 20 4 ≤ 999 - x
  · obtain ⟨k, ek⟩ : ∃ k : Nat, x = (k : Int) := ⟨x.toNat, by omega⟩
    subst ek
    obtain ⟨w, σ1, t1, t2, t3⟩ := j_spo (F := F) (k := k) hF r q h3 (by omega) 10 0 F σ (by omega) (by omega) (fun _ _ => rfl)
    obtain ⟨τ', z1, z2, z3, z4, z5⟩ := t3 σ1 σ1 t2 TryG.rfl' (by rw [t2 86 (by decide)]; exact h57) (by rw [t2 86 (by decide)]; exact h60)
    refine ⟨w, σ1, τ', p, s, e_mob (zc_may hx hst.2 (by decide) (by decide)) ?_, e_mob (zr_ahead hx (by rw [t2 110 (by decide), hst.1]; exact hst.2) (by decide) (by decide)) ?_, (r.g q.2.2.1 t2 z2).2.2.2.2.2.2 z3 z4 z5⟩
    · rw [mb_t c]
      refine e_f (by decide) (e_mob ?_ rfl)
      unfold g_X0_leastDelay
      exact t1
    · rw [t2 110 (by decide), hst.1, mb_t c]
      exact e_t (by decide) z1
  · refine ⟨-1, σ, σ, p, s, e_mob (zc_may hx hst.2 (by decide) (by decide)) ?_, e_mob (zr_ahead hx (by rw [hst.1]; exact hst.2) (by decide) (by decide)) ?_, sm⟩
    · rw [mb_f c]
      exact e_t (by decide) rfl
    · rw [hst.1, mb_f c]
      exact e_f (by decide) rfl
