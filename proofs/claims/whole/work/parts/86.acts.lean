/-! LAYER 2: shine, turn, put -/
/-- what the class may change in an act, beside what it remembers -/
def ActC (σ1 σa : mMem) : Prop := (∀ q, ((1 ≤ q ∧ q ≤ 19) ∨ (35 ≤ q ∧ q ≤ 53) ∨ (55 ≤ q ∧ q ≤ 75) ∨ 77 ≤ q) → σ1 q = σa q) ∧ (∀ j, j ≠ 12 → σ1 0 j = σa 0 j) ∧ σ1 20 3 = σa 20 3 ∧ σ1 54 3 = σa 54 3 ∧ σ1 54 4 = σa 54 4
/-- what the reference may -/
def ActR (τ τa : mMem) : Prop := (∀ q, q < 110 → q ≠ 86 → τ q = τa q) ∧ (∀ q, 122 ≤ q → τ q = τa q) ∧ (∀ j, j ≠ 54 → j ≠ 63 → j ≠ 64 → τ 86 j = τa 86 j) ∧ ∀ L, 2 ≤ L → L < 22 → LE τ L τa L
theorem Rel.do {F : Nat} {σ : mMem} {p s : Nat} {N : Int} (hF : 2000 ≤ F) (r : Rel σ p s N) : ∃ σa, g_X3_remember F 20 σ = some (0, σa) ∧ (∀ q, ¬ (56 ≤ q ∧ q ≤ 75) → q ≠ 54 → σa q = σ q) ∧ (∀ j, j ≠ 3 → j ≠ 4 → σa 54 j = σ 54 j) ∧ ∀ σ1, ActC σ1 σa → ∃ τa, g_X12_keeps F σ1 = some (0, τa) ∧ LE τa 0 σ 0 ∧ (∀ q, ((q < 110 ∧ q ≠ 86) ∨ 118 < q) → τa q = σ1 q) ∧ (∀ j, j ≠ 52 → j ≠ 53 → τa 86 j = σ 86 j) ∧ ∀ τ, ActR τ τa → RS τ → RN τ p (N + 1) → Rel τ p s (N + 1) := by
  obtain ⟨u1, u2, u3, u4, -⟩ := r.2.2.2.2.2.2.1
  have hK := r.2.2.2.2.2.1.1.2.2.2.1
  obtain ⟨σa, a1, a2, a3, a4⟩ := zc_remember (F := F) (σ := σ) u3 u1
  refine ⟨σa, a1, a3, a4, fun σ1 c => ?_⟩
  obtain ⟨c1, c2, c3, c4, c5⟩ := c
  have e86 : σ1 86 = σ 86 := by rw [c1 86 (by omega), a3 86 (by omega) (by omega)]
  have eL : ∀ q, 110 ≤ q → q ≤ 118 → σ1 q = σ q := fun q q1 q2 => by rw [c1 q (by omega), a3 q (by omega) (by omega)]
  have k17 := hK.2.1
  obtain ⟨τa, b1, b2, b3, b4, b5⟩ := zr_keeps (F := F) (τ := σ1) hF (by rw [e86]; exact u4) (by rw [e86]; omega) (by rw [eL 117 (by decide) (by decide)]; have := hK.1; omega)
  refine ⟨τa, b1, b3.tr (LE.of eL), b5, fun j j1 j2 => by rw [b4 j j1 j2, e86], fun τ d hS hR => ?_⟩
  obtain ⟨d1, d2, d3, d4⟩ := d
  have low : ∀ q, q < 110 → q ≠ 86 → τ q = σ1 q := fun q q1 q2 => by rw [d1 q q1 q2, b5 q (by omega)]
  have hi : ∀ q, 122 ≤ q → τ q = σ1 q := fun q q1 => by rw [d2 q q1, b5 q (by omega)]
  refine r.act (by omega) ⟨fun q hq => ?_, fun j hj => ?_, ?_, fun j j1 j2 j3 j4 j5 => ?_⟩ (a2.aft (fun q q1 q2 => by rw [low q (by omega) (by omega), c1 q (by omega)]) (by rw [low 54 (by decide) (by decide), c4]) (by rw [low 54 (by decide) (by decide), c5]) u3) ((b2.pre eL e86).aft d4 (d3 52 (by decide) (by decide) (by decide)) (d3 53 (by decide) (by decide) (by decide))) hS hR
  · by_cases h : q < 110
    · rw [low q h (by omega), c1 q (by omega), a3 q (by omega) (by omega)]
    · rw [hi q (by omega), c1 q (by omega), a3 q (by omega) (by omega)]
  · rw [low 0 (by decide) (by decide), c2 j hj, a3 0 (by decide) (by decide)]
  · rw [low 20 (by decide) (by decide), c3, a3 20 (by decide) (by decide)]
  · rw [d3 j j3 j4 j5, b4 j j1 j2, e86]
/-- the boxes of a floor that stand as they did -/
theorem SR.box {σ τ : mMem} {p L L' k : Nat} (hk : k < (σ p 11).toNat) (hn : σ p 11 ≤ 6) (bk : BK τ σ p) (hb : BEq (cB σ 21 k) (rB σ L k) ∧ BRr (σ p 9) (σ p 10) σ L k) (ea : ∀ g, g < 9 → τ 21 (10 * k + g) = σ 21 (10 * k + g)) (le : ∀ q, 112 ≤ q → q ≤ 116 → τ q (6 * L' + k) = σ q (6 * L + k)) : BEq (cB τ 21 k) (rB τ L' k) ∧ BRr (τ p 9) (τ p 10) τ L' k := by
  obtain ⟨k1, k2, k3, k4, k5, k6, k7⟩ := bk
  have er : rB τ L' k = rB σ L k := rB_pl k3.1 k3.2 k4.1 k4.2 k2 k5 k6 k7 le
  unfold BRr at *
  rw [k1, er, le 112 (by decide) (by decide)]
  refine ⟨fun g hg => ?_, hb.2⟩
  rw [← hb.1 g hg]
  exact ea g hg
theorem a_shine {F : Nat} {σ : mMem} {p s : Nat} {N x : Int} (hF : 2000 ≤ F) (hx : i32 x) (r : Rel σ p s N) : Alk (g_X11_shine F x) (g_X12_shine F x) σ N := by
  obtain ⟨hp, h08, h08n, h20, h20n, hP, hR, h11, h9, h10, hB, hst, hla, h57, h60, h62⟩ := r.now
  obtain ⟨⟨s1, s2, s3, s4, s5⟩, -⟩ := r.2.2.2.2.2.1
  have hs4 := r.2.2.2.1
  unfold Alk g_X11_shine g_X12_shine g_X11_shine_b21 g_X12_shine_b20 g_X12_shine_b33
  by_cases c : (0 ≤ x ∧ x ≤ 9) ∧ ¬ x = σ 20 5
  · obtain ⟨σa, a1, a2, a3, a4⟩ := r.do hF
    obtain ⟨σ1, e1⟩ : ∃ y, y = mup σa 20 5 x := ⟨_, rfl⟩
    have o1 : ∀ q, q ≠ 20 → σ1 q = σa q := fun q hq => by rw [e1, mup_off hq]
    obtain ⟨τa, b1, b2, b3, b4, b5⟩ := a4 σ1 ⟨fun q hq => o1 q (by omega), fun j _ => by rw [o1 0 (by decide)], by rw [e1, mup_ne (by decide)], by rw [o1 54 (by decide)], by rw [o1 54 (by decide)]⟩
    obtain ⟨τ, e2⟩ : ∃ y, y = mup τa 111 0 x := ⟨_, rfl⟩
    have o2 : ∀ q, q ≠ 111 → τ q = τa q := fun q hq => by rw [e2, mup_off hq]
    have low : ∀ q, q < 110 → q ≠ 86 → q ≠ 20 → q ≠ 54 → ¬ (56 ≤ q ∧ q ≤ 75) → τ q = σ q := fun q q1 q2 q3 q4 q5 => by rw [o2 q (by omega), b3 q (by omega), o1 q q3, a2 q q5 q4]
    have e86 : ∀ j, j ≠ 52 → j ≠ 53 → τ 86 j = σ 86 j := fun j j1 j2 => by rw [o2 86 (by decide), b4 j j1 j2]
    have t20 : ∀ j, j ≠ 5 → τ 20 j = σ 20 j := fun j hj => by rw [o2 20 (by decide), b3 20 (by decide), e1, mup_ne (by omega), a2 20 (by decide) (by decide)]
    have t205 : τ 20 5 = x := by rw [o2 20 (by decide), b3 20 (by decide), e1, mup_at rfl rfl]
    have t54 : τ 54 2 = σ 54 2 := by rw [o2 54 (by decide), b3 54 (by decide), o1 54 (by decide), a3 2 (by decide) (by decide)]
    have t76 : τ 76 = σ 76 := low 76 (by decide) (by decide) (by decide) (by decide) (by decide)
    have bk : BK τ σ p := ⟨low p (by omega) (by omega) (by omega) (by omega) (by omega), e86 13 (by decide) (by decide), ⟨h57, by rw [e86 57 (by decide) (by decide)]; exact h57⟩, ⟨h60, by rw [e86 60 (by decide) (by decide)]; exact h60⟩, low 94 (by decide) (by decide) (by decide) (by decide) (by decide), low 95 (by decide) (by decide) (by decide) (by decide) (by decide), low 96 (by decide) (by decide) (by decide) (by decide) (by decide)⟩
    refine ⟨1, σ1, τ, p, s, ?_, ?_, b5 τ ⟨fun q q1 q2 => o2 q (by omega), fun q q1 => o2 q (by omega), fun j _ _ _ => by rw [o2 86 (by decide)], fun L l1 l2 => ⟨by rw [o2 110 (by decide)], by rw [e2, mup_ne (by omega)], by rw [o2 117 (by decide)], fun q q1 q2 k _ => by rw [o2 q (by omega)], fun k _ _ => by rw [o2 118 (by decide)]⟩⟩ ?_ ⟨⟨fun k hk => ?_, ?_, ?_, ?_, ?_⟩, bk.2.2.1.2, bk.2.2.2.1.2, by rw [e86 62 (by decide) (by decide)]; exact h62⟩⟩
    · rw [mw_id hx.1 hx.2, mw_id (z := σ 20 5) (by omega) (by omega), mw_id (z := 9) (by decide) (by decide)]
      refine e_f (by omega) (e_f (by omega) (e_t c.2 (e_mob a1 (e_mem ?_))))
      rw [e1]
      exact e_t (by decide) rfl
    · refine e_mob (zr_isi (by omega)) ?_
      have s111 : σ1 111 0 = σ 20 5 := by rw [o1 111 (by decide), a2 111 (by decide) (by decide), s3.1]
      rw [mb_t c.1, show (mw 0).toNat = 0 by decide, s111, mw_id hx.1 hx.2, mw_id (z := σ 20 5) (by omega) (by omega)]
      refine e_f (by decide) (e_t (by decide) (e_t (by omega) (e_mob b1 (e_t (by decide) (e_mem ?_)))))
      rw [e2]
      exact e_t (by decide) rfl
    · unfold RS at *
      rw [e86 54 (by decide) (by decide), low 0 (by decide) (by decide) (by decide) (by decide) (by decide)]
      exact hs4
    · rw [bk.1] at hk
      exact SR.box hk h11.2 bk (s1 k hk) (fun g _ => by rw [low 21 (by decide) (by decide) (by decide) (by decide) (by decide)]) (fun q q1 q2 => by rw [o2 q (by omega)]; exact b2.2.2.2.1 q q1 q2 k (by omega))
    · rw [o2 110 (by decide), b2.1, t20 4 (by decide)]; exact s2
    · rw [e2, mup_at rfl rfl, ← e2, t205]; exact ⟨rfl, c.1⟩
    · rw [t54, t76]
      exact s4.copy (by rw [o2 117 (by decide), b2.2.2.1]) (fun k hk => by rw [o2 118 (by decide)]; exact b2.2.2.2.2 k (by have := s4.2.1; omega) hk)
    · rw [t54]; omega
  · refine ⟨0, mup σ 85 3 (σ 85 3 + 1), mup (mup σ 85 3 (σ 85 3 + 1)) 109 3 (σ 109 3 + 1), p, s, ?_, ?_, r.refuse⟩
    · rw [mw_id hx.1 hx.2, mw_id (z := σ 20 5) (by omega) (by omega), mw_id (z := 9) (by decide) (by decide)]
      have fin : mob (g_X11_refuse F 3 σ) (fun r104 σ105 => if mw 0 = 0 ∨ mw 0 = 1 then some ((0 : Int), σ105) else none) = some (0, mup σ 85 3 (σ 85 3 + 1)) := e_mob (zc_refuse (k := 3) (by decide)) (e_t (by decide) rfl)
      by_cases c1 : x < 0
      · exact e_t c1 fin
      · by_cases c2 : 9 < x
        · exact e_f c1 (e_t c2 fin)
        · exact e_f c1 (e_f c2 (e_f (fun e => c ⟨by omega, e⟩) fin))
    · have fin : mob (g_X12_refuses F 3 (mup σ 85 3 (σ 85 3 + 1))) (fun r106 σ107 => if mw r106 < 0 then (if mw 0 = 0 ∨ mw 0 = 1 then some ((0 : Int), σ107) else none) else (if mw 1 = 0 ∨ mw 1 = 1 then some ((1 : Int), σ107) else none)) = some (0, mup (mup σ 85 3 (σ 85 3 + 1)) 109 3 (σ 109 3 + 1)) := by
        refine e_mob (zr_refuses (k := 3) (by decide)) (e_t (by decide) (e_t (by decide) ?_))
        rw [mup_ne (o := 85) (by decide)]
      refine e_mob (zr_isi (by omega)) ?_
      have s111 : mup σ 85 3 (σ 85 3 + 1) 111 0 = σ 20 5 := by rw [mup_ne (by decide), s3.1]
      rw [show (mw 0).toNat = 0 by decide, s111, mw_id hx.1 hx.2, mw_id (z := σ 20 5) (by omega) (by omega)]
      by_cases c1 : 0 ≤ x ∧ x ≤ 9
      · rw [mb_t c1]
        exact e_f (by decide) (e_t (by decide) (e_f (fun e => c ⟨c1, fun e2 => e e2.symm⟩) fin))
      · rw [mb_f c1]
        exact e_t (by decide) fin
