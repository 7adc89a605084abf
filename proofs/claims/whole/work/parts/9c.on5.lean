/-! LAYER 2: on -/
theorem okB.br {C R : Int} {b : Nat → Int} {A : Nat → Nat → Int} {k l n : Nat} (hl : l = 4 + 8 * n) (hk : k < n) (hT : Tp b l) (ok : okB C R b k) (hA : BR C R (A k)) : BR C R (xNw b A k) := by
  obtain ⟨k1, k2, k3, k4, k5, k6⟩ := ok
  obtain ⟨b0, b2, b3, b4, b5, b6, b7, b8⟩ := hA
  have T := hT.2
  have t2 := T (3 + 8 * k + 2) (by omega)
  have t3 := T (3 + 8 * k + 3) (by omega)
  have t4 := T (3 + 8 * k + 4) (by omega)
  have t5 := T (3 + 8 * k + 5) (by omega)
  have t6 := T (3 + 8 * k + 6) (by omega)
  have t7 := T (3 + 8 * k + 7) (by omega)
  refine ⟨k1, ⟨t2.1, k3⟩, ?_, ⟨t5.1, k5⟩, b5, b6, b7, ?_⟩
  · show 0 ≤ 256 * b (3 + 8 * k + 3) + b (3 + 8 * k + 4) ∧ 256 * b (3 + 8 * k + 3) + b (3 + 8 * k + 4) ≤ 999
    omega
  · show 0 ≤ 256 * b (3 + 8 * k + 6) + b (3 + 8 * k + 7) ∧ 256 * b (3 + 8 * k + 6) + b (3 + 8 * k + 7) ≤ 2519
    omega
theorem a_on {F : Nat} {σ : mMem} {p s : Nat} {N : Int} (hF : 2000 ≤ F) (hN : 0 ≤ N) (r : Rel σ p s N) : Alk (g_X11_on F) (g_X12_on_ F) σ N := by
  obtain ⟨hp, h08, h08n, h20, h20n, hP, hR, h11, h9, h10, hB, hst, hla, h57, h60, h62⟩ := r.now
  obtain ⟨t1, t2, t3⟩ := r.1
  obtain ⟨⟨s1, s2, s3, s4, s5⟩, -⟩ := r.2.2.2.2.2.1
  obtain ⟨u1, u2, u3, u4, -⟩ := r.2.2.2.2.2.2.1
  have hs := r.2.2.2.1
  obtain ⟨n, en⟩ : ∃ n : Nat, σ p 11 = (n : Int) := ⟨(σ p 11).toNat, by omega⟩
  obtain ⟨l, el⟩ : ∃ l : Nat, σ 1 1 = (l : Int) := ⟨(σ 1 1).toNat, by omega⟩
  obtain ⟨v, σr, a1, a2, a3, a4, a5⟩ := j_on (F := F) hF r en el
  have k17 := s4.2.1
  have kT := s4.1
  -- the reference from a memory that the class has left
  have ref : ∀ σ1 : mMem, (∀ q, 86 ≤ q → σ1 q = σ q) → ∃ τ', g_X12_comesOn F (l : Int) (mup σ1 86 1 0) = some (v, τ') ∧ (∀ q, ¬ (110 ≤ q ∧ q ≤ 118) → τ' q = mup σ1 86 1 0 q) ∧ (∀ L, L < 22 → L ≠ 1 → LE τ' L σ L) ∧ (v = 1 → τ' 110 1 = 256 * σ 2 0 + σ 2 1 ∧ τ' 111 1 = σ 2 2 ∧ τ' 117 1 = 0 ∧ ∀ j, j < n → Bx τ' (σ 2) j) := by
    intro σ1 e
    obtain ⟨τ', c1, c2, c3, c4⟩ := a5 (mup σ1 86 1 0) (hR.same (fun q q1 q2 => by rw [mup_off (by omega), e q (by omega)]) (by rw [mup_ne (by decide), e 86 (by decide)])) (fun j hj => by rw [mup_off (by decide), e 87 (by decide)]; exact (t3 j (by omega)).1) (by rw [mup_off (by decide), e 117 (by decide)]; omega)
    exact ⟨τ', c1, c2, fun L l1 l2 => (c3 L l1 l2).tr (LE.of (fun q q1 q2 => by rw [mup_off (by omega), e q (by omega)])), c4⟩
  have rh : ∀ σ1 : mMem, σ1 86 1 = (l : Int) → ∀ X, (mob (g_X12_comesOn F (l : Int) (mup σ1 86 1 0)) (fun r3 σ4 => if ¬ mw r3 = 0 then (mob (g_X12_copies F 0 1 σ4) (fun r5 σ6 => mlm (mup σ6 86 53 0) (fun σ7 => if mw 1 = 0 ∨ mw 1 = 1 then some (1, σ7) else none))) else (mob (g_X12_refuses F 5 σ4) (fun r8 σ9 => if mw r8 < 0 then (g_X12_on__b31 F 0 σ9) else (g_X12_on__b31 F 1 σ9))))) = X → g_X12_on_ F σ1 = X := by
    intro σ1 e X hX
    unfold g_X12_on_
    rw [e]
    exact e_let (e_mem hX)
  rcases a1 with rfl | rfl
  · have fr := a3 rfl
    obtain ⟨σ1, e1⟩ : ∃ y, y = mup (mup σr 1 1 0) 85 5 (σ 85 5 + 1) := ⟨_, rfl⟩
    have o1 : ∀ q, q ≠ 1 → q ≠ 85 → ¬ (79 ≤ q ∧ q ≤ 84) → σ1 q = σ q := fun q q1 q2 q3 => by rw [e1, mup_off q2, mup_off q1, fr q q3]
    obtain ⟨τ', c1, c2, c3, -⟩ := ref σ1 (fun q hq => o1 q (by omega) (by omega) (by omega))
    have c109 : τ' 109 5 = σ 109 5 := by rw [c2 109 (by decide), mup_off (by decide), o1 109 (by decide) (by decide) (by decide)]
    obtain ⟨τ, e2⟩ : ∃ y, y = mup τ' 109 5 (σ 109 5 + 1) := ⟨_, rfl⟩
    have low : ∀ q, ¬ (110 ≤ q ∧ q ≤ 118) → q ≠ 1 → q ≠ 85 → q ≠ 86 → q ≠ 109 → ¬ (79 ≤ q ∧ q ≤ 84) → τ q = σ q := fun q q1 q2 q3 q4 q5 q6 => by rw [e2, mup_off q5, c2 q q1, mup_off q4, o1 q q2 q3 q6]
    have t86 : ∀ j, j ≠ 1 → τ 86 j = σ 86 j := fun j hj => by rw [e2, mup_off (by decide), c2 86 (by decide), mup_ne (by omega), o1 86 (by decide) (by decide) (by decide)]
    have lay : ∀ L, L < 22 → L ≠ 1 → LE τ L σ L := fun L l1 l2 => LE.tr (b := τ') (B := L) (LE.of (fun q q1 q2 => by rw [e2, mup_off (by omega)])) (c3 L l1 l2)
    refine ⟨0, σ1, τ, p, s, ?_, rh σ1 (by rw [o1 86 (by decide) (by decide) (by decide), t1, el]) _ (e_mob c1 (e_f (by decide) (e_mob (zr_refuses (k := 5) (by decide)) ?_))), ?_⟩
    · unfold g_X11_on
      refine e_mob a2 (e_mem (e_f (by decide) (e_mob (zc_refuse (k := 5) (by decide)) (e_t (by decide) ?_))))
      rw [mup_off (o := 1) (q := 85) (by decide), fr 85 (by decide), ← e1]
    · unfold g_X12_on__b31
      rw [c109, ← e2]
      exact e_t (by decide) (e_t (by decide) rfl)
    · have oth : ∀ q, ((2 ≤ q ∧ q ≤ 19) ∨ q = 35 ∨ q = 36 ∨ q = 77 ∨ q = 78 ∨ (87 ≤ q ∧ q ≤ 108) ∨ 122 ≤ q) → τ q = σ q := fun q hq => low q (by omega) (by omega) (by omega) (by omega) (by omega) (by omega)
      have rdall : ∀ q j, Rd q j → q < 110 → τ q j = σ q j := by
        intro q j hq hq2
        by_cases c86 : q = 86
        · subst c86
          exact t86 j (by omega)
        · rw [low q (by omega) (by omega) (by omega) c86 (by omega) (by omega)]
      have bk : BK τ σ p := ⟨oth p (by omega), t86 13 (by decide), ⟨h57, by rw [t86 57 (by decide)]; exact h57⟩, ⟨h60, by rw [t86 60 (by decide)]; exact h60⟩, oth 94 (by decide), oth 95 (by decide), oth 96 (by decide)⟩
      obtain ⟨r1, r2, r3, r4, r5, r6, r7, r8, r9⟩ := r
      have q20 : τ 20 = σ 20 := low 20 (by decide) (by decide) (by decide) (by decide) (by decide) (by decide)
      have q21 : τ 21 = σ 21 := low 21 (by decide) (by decide) (by decide) (by decide) (by decide) (by decide)
      have q54 : τ 54 = σ 54 := low 54 (by decide) (by decide) (by decide) (by decide) (by decide) (by decide)
      have q76 : τ 76 = σ 76 := low 76 (by decide) (by decide) (by decide) (by decide) (by decide) (by decide)
      have q0 : τ 0 = σ 0 := low 0 (by decide) (by decide) (by decide) (by decide) (by decide) (by decide)
      have z1 : τ 1 1 = 0 := by rw [e2, mup_off (by decide), c2 1 (by decide), mup_off (by decide), e1, mup_off (by decide), mup_at rfl rfl]
      have z86 : τ 86 1 = 0 := by rw [e2, mup_off (by decide), c2 86 (by decide), mup_at rfl rfl]
      refine ⟨⟨by rw [z1, z86], by rw [z1]; decide, fun j hj => by rw [z1] at hj; omega⟩, r2.bump (k := 5) ?_ ?_, r3.of (by rw [q0]) (by rw [q0]) (t86 10 (by decide)) (t86 11 (by decide)), r4.of (by rw [q0]) (t86 54 (by decide)), ?_, ⟨?_, bk.2.2.1.2, bk.2.2.2.1.2, by rw [t86 62 (by decide)]; exact h62⟩, ?_, r8.of (by rw [oth 35 (by decide)]) (oth 36 (by decide)) (t86 66 (by decide)) (oth 122 (by decide)) (oth 123 (by decide)), r9.of (by rw [oth 77 (by decide)]) (oth 78 (by decide)) (t86 71 (by decide)) (oth 125 (by decide))⟩
      · rw [e2, mup_off (by decide), c2 85 (by decide), mup_off (by decide), e1, mup_row, mup_off (by decide), fr 85 (by decide)]
      · rw [e2, mup_row, c2 109 (by decide), mup_off (by decide), o1 109 (by decide) (by decide) (by decide)]
      · obtain ⟨g1, g2, g3, g4, g5, g6⟩ := r5
        have e13 := t86 13 (by decide)
        refine ⟨g1, ?_, g3.same (oth p (by omega)) (oth (p + 1) (by omega)) (oth (p + 4) (by omega)), (g4.same (fun q k1 k2 => oth q (by omega)) e13).rows (oth p (by omega)) (oth (p + 1) (by omega)) (oth (p + 4) (by omega)), ?_, ?_⟩
        · rw [q0, q20]; exact g2
        · rw [e13, oth p (by omega), oth 97 (by decide)]; exact g5
        · rw [e13, oth p (by omega), oth (p + 2) (by omega), oth 102 (by decide)]; exact g6
      · rw [q20, q54, q76]
        exact r6.1.move (by omega) h11.2 bk (fun j _ => by rw [q21]) (lay 0 (by decide) (by decide)) (fun _ _ => rfl)
      · obtain ⟨g1, g2, g3, g4, g5⟩ := r7
        unfold RU
        rw [q54, t86 53 (by decide), t86 52 (by decide)]
        refine ⟨g1, g2, g3, g4, fun i hi => ?_⟩
        have row : τ (56 + ((σ 54 3 - 1 - i) % 20).toNat) = σ (56 + ((σ 54 3 - 1 - i) % 20).toNat) := low _ (by omega) (by omega) (by omega) (by omega) (by omega) (by omega)
        rw [row]
        exact (g5 i hi).move (by omega) h11.2 bk (fun j _ => by rw [row]) (lay _ (by omega) (by omega)) (fun _ _ => rfl)
  · obtain ⟨f1, f3, f4, f5, f6, f7, ⟨hl, hT⟩, f8, f9⟩ := a4 rfl
    have T := hT.2
    have q0 := T 0 (by omega)
    have q1 := T 1 (by omega)
    have q2 := T 2 (by omega)
    obtain ⟨σ1, e1⟩ : ∃ y, y = mup (mup (mup (mup σr 1 1 0) 54 2 0) 54 3 0) 54 4 0 := ⟨_, rfl⟩
    have o1 : ∀ q, q ≠ 1 → q ≠ 54 → σ1 q = σr q := fun q k1 k2 => by rw [e1, mup_off k2, mup_off k2, mup_off k2, mup_off k1]
    have o1' : ∀ q, q ≠ 1 → q ≠ 54 → q ≠ 20 → q ≠ 21 → ¬ (79 ≤ q ∧ q ≤ 84) → σ1 q = σ q := fun q k1 k2 k3 k4 k5 => by rw [o1 q k1 k2, f1 q k3 k4 k5]
    obtain ⟨τ', c1, c2, c3, c4⟩ := ref σ1 (fun q hq => o1' q (by omega) (by omega) (by omega) (by omega) (by omega))
    obtain ⟨d1, d2, d3, d4⟩ := c4 rfl
    obtain ⟨τ2, b1, b2, b3, b4, b5, b6, b7, b8⟩ := zr_copies (F := F) (a := 0) (b := 1) (τ := τ') hF (by decide) (by decide) (by decide) (by rw [d3]; decide)
    obtain ⟨τ, e2⟩ : ∃ y, y = mup τ2 86 53 0 := ⟨_, rfl⟩
    have o2 : ∀ q, q ≠ 86 → τ q = τ2 q := fun q hq => by rw [e2, mup_off hq]
    have low : ∀ q, ¬ (110 ≤ q ∧ q ≤ 118) → q ≠ 86 → τ q = σ1 q := fun q k1 k2 => by rw [o2 q k2, b2 q (by omega), c2 q k1, mup_off k2]
    have t86 : ∀ j, j ≠ 1 → j ≠ 53 → τ 86 j = σ 86 j := fun j k1 k2 => by rw [e2, mup_ne (by omega), b2 86 (by decide), c2 86 (by decide), mup_ne (by omega), o1' 86 (by decide) (by decide) (by decide) (by decide) (by decide)]
    have t53 : τ 86 53 = 0 := by rw [e2, mup_at rfl rfl]
    have z1 : τ 1 1 = 0 := by rw [low 1 (by decide) (by decide), e1, mup_off (by decide), mup_off (by decide), mup_off (by decide), mup_at rfl rfl]
    have z86 : τ 86 1 = 0 := by rw [e2, mup_ne (by decide), b2 86 (by decide), c2 86 (by decide), mup_at rfl rfl]
    have w2 : τ 54 2 = 0 := by rw [low 54 (by decide) (by decide), e1, mup_ne (by decide), mup_ne (by decide), mup_at rfl rfl]
    have w3 : τ 54 3 = 0 := by rw [low 54 (by decide) (by decide), e1, mup_ne (by decide), mup_at rfl rfl]
    have w4 : τ 54 4 = 0 := by rw [low 54 (by decide) (by decide), e1, mup_at rfl rfl]
    -- both with their tapes empty
    obtain ⟨σt, et⟩ : ∃ y, y = mup (mup σ 1 1 0) 86 1 0 := ⟨_, rfl⟩
    have rt : Rel σt p s (N + 1) := r.tape (fun q j g1 g2 g3 g4 => by rw [et, mup_ne (by omega), mup_ne (by omega)]) (by
      unfold RT
      rw [et, mup_at rfl rfl, mup_off (q := 1) (by decide), mup_at rfl rfl]
      exact ⟨rfl, by decide, fun j hj => absurd hj (by omega)⟩)
    have ot : ∀ q, q ≠ 1 → q ≠ 86 → σt q = σ q := fun q k1 k2 => by rw [et, mup_off k2, mup_off k1]
    have ot86 : ∀ j, j ≠ 1 → σt 86 j = σ 86 j := fun j hj => by rw [et, mup_ne (by omega), mup_off (by decide)]
    have oth : Oth τ σt := by
      refine ⟨fun q hq => ?_, fun j hj => ?_, ?_, fun j k1 k2 k3 k4 k5 => ?_⟩
      · by_cases cq : q = 1
        · subst cq
          funext j
          by_cases cj : j = 1
          · subst cj
            rw [z1, et, mup_off (by decide), mup_at rfl rfl]
          · rw [low 1 (by decide) (by decide), e1, mup_off (by decide), mup_off (by decide), mup_off (by decide), mup_ne (by omega), f1 1 (by decide) (by decide) (by decide), et, mup_off (by decide), mup_ne (by omega)]
        · rw [low q (by omega) (by omega), o1' q cq (by omega) (by omega) (by omega) (by omega), ot q cq (by omega)]
      · rw [low 0 (by decide) (by decide), o1' 0 (by decide) (by decide) (by decide) (by decide) (by decide), ot 0 (by decide) (by decide)]
      · rw [low 20 (by decide) (by decide), o1 20 (by decide) (by decide), f3, ot 20 (by decide) (by decide)]
        omega
      · by_cases cj : j = 1
        · subst cj
          rw [z86, et, mup_at rfl rfl]
        · rw [t86 j cj k2, ot86 j cj]
    have ep : τ p = σ p := by rw [low p (by omega) (by omega), o1' p (by omega) (by omega) (by omega) (by omega) (by omega)]
    have e57 : τ 86 57 = -1 := by rw [t86 57 (by decide) (by decide)]; exact h57
    have e60 : τ 86 60 = -1 := by rw [t86 60 (by decide) (by decide)]; exact h60
    have e13 : τ 86 13 = σ 86 13 := t86 13 (by decide) (by decide)
    refine ⟨1, σ1, τ, p, s, ?_, rh σ1 (by rw [o1' 86 (by decide) (by decide) (by decide) (by decide) (by decide), t1, el]) _ (e_mob c1 (e_t (by decide) (e_mob b1 (e_mem ?_)))), rt.oth (by omega) oth ?_ ⟨⟨fun k hk => ?_, ?_, ?_, ?_, ?_⟩, e57, e60, by rw [t86 62 (by decide) (by decide)]; exact h62⟩ ⟨by rw [w4]; decide, by rw [w4, t53], by rw [w3]; decide, by rw [t86 52 (by decide) (by decide)]; exact u4, fun i hi => absurd hi (by rw [w4]; omega)⟩⟩
    · unfold g_X11_on g_X3_forget
      refine e_mob a2 (e_mem (e_t (by decide) (e_mob (e_mem (e_mem (e_mem rfl))) (e_t (by decide) ?_))))
      rw [← e1]
    · rw [← e2]
      exact e_t (by decide) rfl
    · unfold RS at *
      rw [t86 54 (by decide) (by decide), low 0 (by decide) (by decide), o1' 0 (by decide) (by decide) (by decide) (by decide) (by decide)]
      exact hs
    · rw [ep] at hk ⊢
      have kn : k < n := by omega
      have bx := d4 k kn
      have ok := f9 k kn
      have tt0 := T (3 + 8 * k) (by omega)
      have tt1 := T (3 + 8 * k + 1) (by omega)
      have on9 := ok.1
      have m0 : ∀ q, 112 ≤ q → q ≤ 116 → τ q (6 * 0 + k) = τ' q (6 + k) := fun q k1 k2 => by rw [o2 q (by omega)]; exact (b6 q k1 k2).2 k (by omega)
      have E := (hB k hk).1
      have br := okB.br (A := cB σ 21) hl kn hT ok (hB k hk).2.2
      have req : ∀ f, f < 9 → rB τ 0 k f = xNw (σ 2) (cB σ 21) k f := by
        intro f hf
        have j1 : ¬ (k : Int) = -1 := by omega
        rcases (by omega : f = 0 ∨ f = 1 ∨ f = 2 ∨ f = 3 ∨ f = 4 ∨ f = 5 ∨ f = 6 ∨ f = 7 ∨ f = 8) with rfl | rfl | rfl | rfl | rfl | rfl | rfl | rfl | rfl
        · rw [rB_0, m0 112 (by decide) (by decide), bx.1]
          show _ = σ 2 (3 + 8 * k)
          omega
        · rw [rB_1, m0 112 (by decide) (by decide), bx.1]
          show _ = σ 2 (3 + 8 * k + 1)
          omega
        · rw [rB_2, m0 113 (by decide) (by decide), bx.2.1]; rfl
        · rw [rB_3, m0 114 (by decide) (by decide), bx.2.2.1]; rfl
        · rw [rB_4, m0 115 (by decide) (by decide), bx.2.2.2.1]; rfl
        · have e := E 5 (by decide)
          show rB τ 0 k 5 = cB σ 21 k 5
          rw [e]
          unfold rB
          rw [e57, h57, e13, low 94 (by decide) (by decide), o1' 94 (by decide) (by decide) (by decide) (by decide) (by decide)]
          simp only [if_neg j1]
          rfl
        · have e := E 6 (by decide)
          show rB τ 0 k 6 = cB σ 21 k 6
          rw [e]
          unfold rB
          rw [e57, h57, e13, low 95 (by decide) (by decide), o1' 95 (by decide) (by decide) (by decide) (by decide) (by decide)]
          simp only [if_neg j1]
          rfl
        · have e := E 7 (by decide)
          show rB τ 0 k 7 = cB σ 21 k 7
          rw [e]
          unfold rB
          rw [e60, h60, e13, low 96 (by decide) (by decide), o1' 96 (by decide) (by decide) (by decide) (by decide) (by decide)]
          simp only [if_neg j1]
          rfl
        · rw [rB_8, m0 116 (by decide) (by decide), bx.2.2.2.2]; rfl
      refine ⟨fun f hf => ?_, ?_, ?_⟩
      · rw [req f hf, ← f8 k kn f hf]
        show τ 21 (10 * k + f) = σr 21 (10 * k + f)
        rw [low 21 (by decide) (by decide), o1 21 (by decide) (by decide)]
      · rw [m0 112 (by decide) (by decide), bx.1]
        omega
      · exact br.congr (fun f hf => req f hf)
    · rw [o2 110 (by decide), b3, mup1_at rfl, d1, low 20 (by decide) (by decide), o1 20 (by decide) (by decide), f4]
      exact ⟨rfl, by omega, f6⟩
    · rw [o2 111 (by decide), b4, mup1_at rfl, d2, low 20 (by decide) (by decide), o1 20 (by decide) (by decide), f5]
      exact ⟨rfl, by omega, f7⟩
    · rw [w2]
      exact ⟨by decide, by rw [o2 117 (by decide), b5, mup1_at rfl, d3]; decide, fun i hi => absurd hi (by omega)⟩
    · rw [w2]; omega
