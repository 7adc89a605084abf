/-! LAYER 2: kitchen: a text that is refused leaves all as it was -/
/-- the bank in use is as it was -/
def Bk (σ' σ : mMem) : Prop := ∀ q j, 88 ≤ q → q ≤ 102 → bw q * (σ 86 13).toNat ≤ j → j < bw q * (σ 86 13).toNat + bw q → σ' q j = σ q j
theorem Bk.a {σ σ' : mMem} (h : Bk σ' σ) (q x m : Nat) (hm : bw q = m) (hq : 88 ≤ q ∧ q ≤ 102) (hx : x < m) : σ' q (m * (σ 86 13).toNat + x) = σ q (m * (σ 86 13).toNat + x) := by
  subst hm
  exact h q _ hq.1 hq.2 (by omega) (by omega)
theorem Bk.b {σ σ' : mMem} (h : Bk σ' σ) (q : Nat) (hm : bw q = 1) (hq : 88 ≤ q ∧ q ≤ 102) : σ' q (σ 86 13).toNat = σ q (σ 86 13).toNat := by
  have := h.a q 0 1 hm hq (by decide)
  rw [show 1 * (σ 86 13).toNat + 0 = (σ 86 13).toNat by omega] at this
  exact this
theorem SR.kit {σ σ' : mMem} {p a L : Nat} {N N' step lamp T : Int} {ring : Nat → Int} (hN : N ≤ N') (hp : σ' p = σ p) (hn : σ p 11 ≤ 6) (ha : σ' a = σ a) (h110 : ∀ q, 110 ≤ q → q ≤ 118 → σ' q = σ q) (h86 : ∀ j, (j = 13 ∨ (57 ≤ j ∧ j ≤ 61)) → σ' 86 j = σ 86 j) (bk : Bk σ' σ) (hs : SR σ p a L step lamp T ring N) : SR σ' p a L step lamp T ring N' := by
  obtain ⟨s1, s2, s3, s4, s5⟩ := hs
  have er : ∀ k, k < 6 → rB σ' L k = rB σ L k := fun k hk => by
    funext f
    unfold rB
    rw [h86 13 (by decide), h86 57 (by decide), h86 58 (by decide), h86 59 (by decide), h86 60 (by decide), h86 61 (by decide), bk.a 94 k 6 rfl (by decide) hk, bk.a 95 k 6 rfl (by decide) hk, bk.a 96 k 6 rfl (by decide) hk, h110 112 (by decide) (by decide), h110 113 (by decide) (by decide), h110 114 (by decide) (by decide), h110 115 (by decide) (by decide), h110 116 (by decide) (by decide)]
  refine ⟨fun k hk => ?_, ?_, ?_, ?_, by omega⟩
  · rw [hp] at hk
    have k1 := s1 k hk
    unfold BRr at *
    rw [hp, er k (by omega), h110 112 (by decide) (by decide)]
    refine ⟨fun g hg => ?_, k1.2⟩
    rw [← k1.1 g hg]
    dsimp only [cB]
    rw [ha]
  · rw [h110 110 (by decide) (by decide)]; exact s2
  · rw [h110 111 (by decide) (by decide)]; exact s3
  · exact s4.congr (by rw [h110 117 (by decide) (by decide)]) (fun j _ _ => by rw [h110 118 (by decide) (by decide)])
theorem Rel.spare {σ σ' : mMem} {p s : Nat} {N N' : Int} (r : Rel σ p s N) (hN : N ≤ N') (hq : ∀ q, (p ≤ q ∧ q ≤ p + 4) ∨ q = 20 ∨ q = 21 ∨ q = 35 ∨ q = 36 ∨ (54 ≤ q ∧ q ≤ 78) ∨ (110 ≤ q ∧ q ≤ 125) → σ' q = σ q) (h0 : ∀ j, (j = 8 ∨ j = 9 ∨ j = 12) → σ' 0 j = σ 0 j) (h86 : ∀ j, (j = 13 ∨ 45 ≤ j) → σ' 86 j = σ 86 j) (bk : Bk σ' σ) (hT : RT σ') (hF : RF σ' N') (hX : RX σ') : Rel σ' p s N' := by
  obtain ⟨-, -, -, r4, r5, r6, r7, r8, r9⟩ := r
  obtain ⟨p1, p2, p3, p4, p5, p6⟩ := r5
  have hp : p = 3 ∨ p = 8 := by omega
  have hn : σ p 11 ≤ 6 := p3.2.2.1.2
  have e0 : σ' p = σ p := hq p (by omega)
  have e1 : σ' (p + 1) = σ (p + 1) := hq (p + 1) (by omega)
  have e2 : σ' (p + 2) = σ (p + 2) := hq (p + 2) (by omega)
  have e4 : σ' (p + 4) = σ (p + 4) := hq (p + 4) (by omega)
  have e13 : σ' 86 13 = σ 86 13 := h86 13 (by decide)
  have q110 : ∀ q, 110 ≤ q → q ≤ 118 → σ' q = σ q := fun q q1 q2 => hq q (by omega)
  have sr : ∀ {a L : Nat} {step lamp T : Int} {ring : Nat → Int}, σ' a = σ a → SR σ p a L step lamp T ring N → SR σ' p a L step lamp T ring N' := fun ha h => h.kit hN e0 hn ha q110 (fun j hj => h86 j (by omega)) bk
  refine ⟨hT, hF, hX, r4.of (h0 12 (by decide)) (h86 54 (by decide)), ⟨p1, ?_, p3.same e0 e1 e4, ?_, ?_, ?_⟩, ⟨?_, ?_, ?_, ?_⟩, ?_, r8.of (by rw [hq 35 (by omega)]) (hq 36 (by omega)) (h86 66 (by decide)) (hq 122 (by omega)) (hq 123 (by omega)), r9.of (by rw [hq 77 (by omega)]) (hq 78 (by omega)) (h86 71 (by decide)) (hq 125 (by omega))⟩
  · rw [h0 8 (by decide), h0 9 (by decide), hq 20 (by omega)]; exact p2
  · obtain ⟨a1, a2, a3, a4, a5, a6, a7⟩ := p4
    have fm : ∀ a w : Nat, w < 2 → (σ p a < σ p (a + 1) → σ p (a + 1) ≤ 1600) → FmR σ p σ a w → FmR σ' p σ' a w := by
      intro a w hw h16 h
      unfold FmR at *
      rw [e13, e0, e4, bk.a 98 w 2 rfl (by decide) hw, bk.a 99 w 2 rfl (by decide) hw]
      rcases h with h | ⟨g1, g2, g3, g4⟩
      · exact Or.inl h
      · refine Or.inr ⟨g1, g2, g3, fun j j1 j2 => ?_⟩
        have h17 := h16 g1
        have hj : j < 1600 := by omega
        rw [bk.a 100 j 1600 rfl (by decide) hj, bk.a 101 j 1600 rfl (by decide) hj]
        exact g4 j j1 j2
    have b6 : σ p 5 < σ p (5 + 1) → σ p (5 + 1) ≤ 1600 := fun q => by
      rcases p3.2.2.2.2.2.1 with h | h
      · have q' : σ p 5 < σ p 6 := q
        omega
      · exact h.2.2.1
    have b8 : σ p 7 < σ p (7 + 1) → σ p (7 + 1) ≤ 1600 := fun q => by
      rcases p3.2.2.2.2.2.2 with h | h
      · have q' : σ p 7 < σ p 8 := q
        omega
      · exact h.2.2.1
    refine ⟨by rw [e13]; exact a1, ?_, ?_, ?_, fun j hj => ?_, fm 5 0 (by decide) b6 a6, fm 7 1 (by decide) b8 a7⟩
    · rw [e13, e0, bk.b 88 rfl (by decide)]; exact a2
    · rw [e13, e0, bk.b 89 rfl (by decide)]; exact a3
    · rw [e13, e0, bk.b 91 rfl (by decide)]; exact a4
    · rw [e13, e1, bk.a 90 j 81 rfl (by decide) hj]; exact a5 j hj
  · rw [e13, e0, bk.a 97 2 3 rfl (by decide) (by decide)]; exact p5
  · intro k hk
    rw [e0] at hk
    rw [e13, e2, bk.a 102 k 6 rfl (by decide) (by omega)]
    exact p6 k hk
  · rw [hq 20 (by omega), hq 54 (by omega), hq 76 (by omega)]
    exact sr (hq 21 (by omega)) r6.1
  · rw [h86 57 (by decide)]; exact r6.2.1
  · rw [h86 60 (by decide)]; exact r6.2.2.1
  · rw [h86 62 (by decide)]; exact r6.2.2.2
  · obtain ⟨u1, u2, u3, u4, u5⟩ := r7
    unfold RU
    rw [hq 54 (by omega), h86 53 (by decide), h86 52 (by decide)]
    refine ⟨u1, u2, u3, u4, fun i hi => ?_⟩
    have er : σ' (56 + ((σ 54 3 - 1 - i) % 20).toNat) = σ (56 + ((σ 54 3 - 1 - i) % 20).toNat) := hq _ (by omega)
    rw [er]
    exact sr er (u5 i hi)
