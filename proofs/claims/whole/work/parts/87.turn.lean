/-! LAYER 2: turn, put -/
theorem Rel.box1 {F : Nat} {σ : mMem} {p s : Nat} {N : Int} (hF : 2000 ≤ F) (r : Rel σ p s N) : ∃ σa, g_X3_remember F 20 σ = some (0, σa) ∧ (∀ q, ¬ (56 ≤ q ∧ q ≤ 75) → q ≠ 54 → σa q = σ q) ∧ ∀ σ1, (∀ q, q ≠ 21 → σ1 q = σa q) → ∃ τa, g_X12_keeps F σ1 = some (0, τa) ∧ (∀ q, 112 ≤ q → q ≤ 116 → ∀ k, k < 6 → τa q k = σ q k) ∧ ∀ τ, (∀ q, q ≠ 112 → q ≠ 113 → τ q = τa q) → (∀ j, 6 ≤ j → τ 112 j = τa 112 j ∧ τ 113 j = τa 113 j) → (τ 21 = σ1 21 ∧ BK τ σ p) ∧ ((∀ k, k < (σ p 11).toNat → BEq (cB τ 21 k) (rB τ 0 k) ∧ BRr (σ p 9) (σ p 10) τ 0 k) → Rel τ p s (N + 1)) := by
  obtain ⟨hp, h08, h08n, h20, h20n, hP, hR, h11, h9, h10, hB, hst, hla, h57, h60, h62⟩ := r.now
  obtain ⟨⟨s1, s2, s3, s4, s5⟩, -⟩ := r.2.2.2.2.2.1
  have hs4 := r.2.2.2.1
  obtain ⟨σa, a1, a2, a3, a4⟩ := r.do hF
  refine ⟨σa, a1, a2, fun σ1 o1 => ?_⟩
  obtain ⟨τa, b1, b2, b3, b4, b5⟩ := a4 σ1 ⟨fun q hq => o1 q (by omega), fun j _ => by rw [o1 0 (by decide)], by rw [o1 20 (by decide)], by rw [o1 54 (by decide)], by rw [o1 54 (by decide)]⟩
  refine ⟨τa, b1, fun q q1 q2 k hk => ?_, fun τ o2 o3 => ?_⟩
  · have := b2.2.2.2.1 q q1 q2 k hk
    rw [show 6 * 0 + k = k by omega] at this
    exact this
  have low : ∀ q, q < 110 → q ≠ 86 → q ≠ 21 → q ≠ 54 → ¬ (56 ≤ q ∧ q ≤ 75) → τ q = σ q := fun q q1 q2 q3 q4 q5 => by rw [o2 q (by omega) (by omega), b3 q (by omega), o1 q q3, a2 q q5 q4]
  have e86 : ∀ j, j ≠ 52 → j ≠ 53 → τ 86 j = σ 86 j := fun j j1 j2 => by rw [o2 86 (by decide) (by decide), b4 j j1 j2]
  have t54 : τ 54 2 = σ 54 2 := by rw [o2 54 (by decide) (by decide), b3 54 (by decide), o1 54 (by decide), a3 2 (by decide) (by decide)]
  have t76 : τ 76 = σ 76 := low 76 (by decide) (by decide) (by decide) (by decide) (by decide)
  have t20 : τ 20 = σ 20 := low 20 (by decide) (by decide) (by decide) (by decide) (by decide)
  have bk : BK τ σ p := ⟨low p (by omega) (by omega) (by omega) (by omega) (by omega), e86 13 (by decide) (by decide), ⟨h57, by rw [e86 57 (by decide) (by decide)]; exact h57⟩, ⟨h60, by rw [e86 60 (by decide) (by decide)]; exact h60⟩, low 94 (by decide) (by decide) (by decide) (by decide) (by decide), low 95 (by decide) (by decide) (by decide) (by decide) (by decide), low 96 (by decide) (by decide) (by decide) (by decide) (by decide)⟩
  refine ⟨⟨by rw [o2 21 (by decide) (by decide), b3 21 (by decide)], bk⟩, fun hbox => ?_⟩
  refine b5 τ ⟨fun q q1 q2 => o2 q (by omega) (by omega), fun q q1 => o2 q (by omega) (by omega), fun j _ _ _ => by rw [o2 86 (by decide) (by decide)], fun L l1 l2 => ⟨by rw [o2 110 (by decide) (by decide)], by rw [o2 111 (by decide) (by decide)], by rw [o2 117 (by decide) (by decide)], fun q q1 q2 k _ => ?_, fun k _ _ => by rw [o2 118 (by decide) (by decide)]⟩⟩ ?_ ⟨⟨fun k hk => ?_, ?_, ?_, ?_, ?_⟩, bk.2.2.1.2, bk.2.2.2.1.2, by rw [e86 62 (by decide) (by decide)]; exact h62⟩
  · by_cases c1 : q = 112
    · subst c1; exact (o3 _ (by omega)).1
    · by_cases c2 : q = 113
      · subst c2; exact (o3 _ (by omega)).2
      · rw [o2 q c1 c2]
  · unfold RS at *
    rw [e86 54 (by decide) (by decide), low 0 (by decide) (by decide) (by decide) (by decide) (by decide)]
    exact hs4
  · rw [bk.1] at hk ⊢
    exact hbox k hk
  · rw [o2 110 (by decide) (by decide), b2.1, t20]; exact s2
  · rw [o2 111 (by decide) (by decide), b2.2.1, t20]; exact s3
  · rw [t54, t76]
    exact s4.copy (by rw [o2 117 (by decide) (by decide), b2.2.2.1]) (fun k hk => by rw [o2 118 (by decide) (by decide)]; exact b2.2.2.2.2 k (by have := s4.2.1; omega) hk)
  · rw [t54]; omega
theorem rB_n2 {τ σ : mMem} {k f : Nat} (hf : f ≠ 2) (h57 : σ 86 57 = -1 ∧ τ 86 57 = -1) (h60 : σ 86 60 = -1 ∧ τ 86 60 = -1) (h13 : τ 86 13 = σ 86 13) (h94 : τ 94 = σ 94) (h95 : τ 95 = σ 95) (h96 : τ 96 = σ 96) (hq : ∀ q, 112 ≤ q → q ≤ 116 → q ≠ 113 → τ q k = σ q k) : rB τ 0 k f = rB σ 0 k f := by
  unfold rB
  have hk : ¬ (k : Int) = -1 := by omega
  rw [show 6 * 0 + k = k by omega, if_neg hf, if_neg hf, h57.1, h57.2, h60.1, h60.2, h13, h94, h95, h96, hq 112 (by decide) (by decide) (by decide), hq 114 (by decide) (by decide) (by decide), hq 115 (by decide) (by decide) (by decide), hq 116 (by decide) (by decide) (by decide)]
  simp only [if_neg hk]
theorem rB_n01 {τ σ : mMem} {k f : Nat} (hf : f ≠ 0 ∧ f ≠ 1) (h57 : σ 86 57 = -1 ∧ τ 86 57 = -1) (h60 : σ 86 60 = -1 ∧ τ 86 60 = -1) (h13 : τ 86 13 = σ 86 13) (h94 : τ 94 = σ 94) (h95 : τ 95 = σ 95) (h96 : τ 96 = σ 96) (hq : ∀ q, 113 ≤ q → q ≤ 116 → τ q k = σ q k) : rB τ 0 k f = rB σ 0 k f := by
  unfold rB
  have hk : ¬ (k : Int) = -1 := by omega
  rw [show 6 * 0 + k = k by omega, if_neg hf.1, if_neg hf.2, if_neg hf.1, if_neg hf.2, h57.1, h57.2, h60.1, h60.2, h13, h94, h95, h96, hq 113 (by decide) (by decide), hq 114 (by decide) (by decide), hq 115 (by decide) (by decide), hq 116 (by decide) (by decide)]
  simp only [if_neg hk]
/-- both refuse an act -/
theorem zr_ref3 {F : Nat} {σ : mMem} : mob (g_X12_refuses F 3 (mup σ 85 3 (σ 85 3 + 1))) (fun r106 σ107 => if mw r106 < 0 then (if mw 0 = 0 ∨ mw 0 = 1 then some ((0 : Int), σ107) else none) else (if mw 1 = 0 ∨ mw 1 = 1 then some ((1 : Int), σ107) else none)) = some (0, mup (mup σ 85 3 (σ 85 3 + 1)) 109 3 (σ 109 3 + 1)) := by
  refine e_mob (zr_refuses (k := 3) (by decide)) (e_t (by decide) (e_t (by decide) ?_))
  rw [mup_ne (o := 85) (by decide)]
theorem zc_ref3 {F : Nat} {σ : mMem} : mob (g_X11_refuse F 3 σ) (fun r104 σ105 => if mw 0 = 0 ∨ mw 0 = 1 then some ((0 : Int), σ105) else none) = some (0, mup σ 85 3 (σ 85 3 + 1)) := e_mob (zc_refuse (k := 3) (by decide)) (e_t (by decide) rfl)
theorem a_turn {F : Nat} {σ : mMem} {p s : Nat} {N x y : Int} (hF : 2000 ≤ F) (hx : i32 x) (hy : i32 y) (r : Rel σ p s N) : Alk (g_X11_turn F x y) (g_X12_turn F x y) σ N := by
  obtain ⟨hp, h08, h08n, h20, h20n, hP, hR, h11, h9, h10, hB, hst, hla, h57, h60, h62⟩ := r.now
  unfold Alk g_X11_turn g_X12_turn g_X11_turn_b33 g_X12_turn_b27 g_X12_turn_b40
  have hR2 : PlR σ p (mup σ 85 3 (σ 85 3 + 1)) := hR.same (fun q q1 q2 => mup_off (by omega)) (by rw [mup_off (by decide)])
  simp only [h08n, if_pos h08, zc_hasBox hx h11, mob_sm, mw_id hx.1 hx.2, mw_id hy.1 hy.2, show mw 3 = 3 by decide]
  by_cases c1 : 0 ≤ x ∧ x < σ p 11
  · obtain ⟨b, eb⟩ : ∃ b : Nat, x = (b : Int) := ⟨x.toNat, by omega⟩
    subst eb
    have hb : b < (σ p 11).toNat := by omega
    obtain ⟨B1, B2, B3⟩ := hB b hb
    have w2 : σ 113 b = σ 21 (10 * b + 2) := by
      have := B1 2 (by decide)
      rw [rB_2, show 6 * 0 + b = b by omega] at this
      exact this.symm
    have r2 : 0 ≤ σ 21 (10 * b + 2) ∧ σ 21 (10 * b + 2) ≤ 3 := B3.2.1
    rw [mb_t c1]
    by_cases c2 : 0 ≤ y ∧ y ≤ 3
    · by_cases c3 : σ 21 (10 * b + 2) = y
      · refine ⟨0, mup σ 85 3 (σ 85 3 + 1), mup (mup σ 85 3 (σ 85 3 + 1)) 109 3 (σ 109 3 + 1), p, s, ?_, e_mob (zr_isBox hx hR2 h11) ?_, r.refuse⟩
        · refine e_f (by decide) (e_f (by omega) (e_f (by omega) (e_mob (zo_2 (by omega)) (e_f (fun e => e ?_) zc_ref3))))
          show mw (σ 21 (10 * b + 2)) = y
          rw [c3, mw_id (by omega) (by omega)]
        · rw [mb_t c1]
          refine e_f (by decide) (e_mob (zr_isi (by omega)) ?_)
          rw [mb_t c2, show ((b : Int)).toNat = b by omega, mup_off (o := 85) (by decide), w2, c3]
          exact e_f (by decide) (e_t (by omega) (e_f (fun e => e (mw_id (by omega) (by omega))) zr_ref3))
      · obtain ⟨σa, a1, a2, a4⟩ := r.box1 hF
        obtain ⟨σ1, e1⟩ : ∃ z, z = mup σa (20 + 1) (10 * b + 2) y := ⟨_, rfl⟩
        have o1 : ∀ q, q ≠ 21 → σ1 q = σa q := fun q hq => by rw [e1, mup_off (by omega)]
        obtain ⟨τa, b1, b2, b5⟩ := a4 σ1 o1
        obtain ⟨τ, e2⟩ : ∃ z, z = mup τa 113 b y := ⟨_, rfl⟩
        have o2 : ∀ q, q ≠ 112 → q ≠ 113 → τ q = τa q := fun q _ hq => by rw [e2, mup_off hq]
        obtain ⟨⟨t21, bk⟩, fin⟩ := b5 τ o2 (fun j hj => ⟨by rw [e2, mup_off (by decide)], by rw [e2, mup_ne (by omega)]⟩)
        have t113 : ∀ k, k < 6 → k ≠ b → τ 113 k = σ 113 k := fun k hk hkb => by rw [e2, mup_ne (by omega), b2 113 (by decide) (by decide) k hk]
        have tq : ∀ q, 112 ≤ q → q ≤ 116 → q ≠ 113 → ∀ k, k < 6 → τ q k = σ q k := fun q q1 q2 q3 k hk => by rw [e2, mup_off q3, b2 q q1 q2 k hk]
        have hR1 : PlR σ p σ1 := hR.same (fun q q1 q2 => by rw [o1 q (by omega), a2 q (by omega) (by omega)]) (by rw [o1 86 (by decide), a2 86 (by decide) (by decide)])
        refine ⟨1, σ1, τ, p, s, ?_, e_mob (zr_isBox hx hR1 h11) ?_, fin (fun k hk => ?_)⟩
        · refine e_f (by decide) (e_f (by omega) (e_f (by omega) (e_mob (zo_2 (by omega)) (e_t ?_ (e_mob a1 (e_mob (zs_2 (by omega)) ?_))))))
          · show ¬ mw (σ 21 (10 * b + 2)) = y
            rw [mw_id (by omega) (by omega)]
            exact c3
          · rw [e1]
            exact e_t (by decide) rfl
        · rw [mb_t c1]
          refine e_f (by decide) (e_mob (zr_isi (by omega)) ?_)
          rw [mb_t c2, show ((b : Int)).toNat = b by omega, o1 113 (by decide), a2 113 (by decide) (by decide), w2]
          refine e_f (by decide) (e_t (by omega) (e_t (by rw [mw_id (by omega) (by omega)]; exact c3) (e_mob b1 (e_t (by omega) (e_mem ?_)))))
          rw [e2]
          exact e_t (by decide) rfl
        · by_cases ck : k = b
          · subst ck
            have k6 : k < 6 := by omega
            have tb : τ 113 k = y := by rw [e2, mup_at rfl rfl]
            have tc : τ 21 (10 * k + 2) = y := by rw [t21, e1, mup_at rfl rfl]
            have r2' : rB τ 0 k 2 = y := by rw [rB_2, show 6 * 0 + k = k by omega, tb]
            have rn : ∀ f, f ≠ 2 → rB τ 0 k f = rB σ 0 k f := fun f hf => rB_n2 hf bk.2.2.1 bk.2.2.2.1 bk.2.1 bk.2.2.2.2.1 bk.2.2.2.2.2.1 bk.2.2.2.2.2.2 (fun q q1 q2 q3 => tq q q1 q2 q3 k k6)
            have cn : ∀ f, f < 9 → f ≠ 2 → cB τ 21 k f = cB σ 21 k f := fun f _ hf => by
              show τ 21 (10 * k + f) = σ 21 (10 * k + f)
              rw [t21, e1, mup_ne (by omega), a2 21 (by decide) (by decide)]
            refine ⟨fun f hf => ?_, ?_, ?_⟩
            · by_cases cf : f = 2
              · subst cf
                rw [r2']
                exact tc
              · rw [cn f hf cf, rn f cf]
                exact B1 f hf
            · rw [show 6 * 0 + k = k by omega, tq 112 (by decide) (by decide) (by decide) k k6]
              have := B2.1
              rw [show 6 * 0 + k = k by omega] at this
              exact this
            · obtain ⟨q0, q2, q3, q4, q5, q6, q7, q8⟩ := B2.2
              refine ⟨by rw [rn 0 (by decide), rn 1 (by decide)]; exact q0, by rw [r2']; exact c2, by rw [rn 3 (by decide)]; exact q3, by rw [rn 4 (by decide)]; exact q4, by rw [rn 5 (by decide)]; exact q5, by rw [rn 6 (by decide)]; exact q6, by rw [rn 7 (by decide)]; exact q7, by rw [rn 8 (by decide)]; exact q8⟩
          · have := SR.box (τ := τ) (L' := 0) hk h11.2 bk ⟨(hB k hk).1, (hB k hk).2.1⟩ (fun g hg => by rw [t21, e1, mup_ne (by omega), a2 21 (by decide) (by decide)]) (fun q q1 q2 => by
              rw [show 6 * 0 + k = k by omega]
              by_cases c13 : q = 113
              · rw [c13]; exact t113 k (by omega) ck
              · exact tq q q1 q2 c13 k (by omega))
            rw [bk.1] at this
            exact this
    · refine ⟨0, mup σ 85 3 (σ 85 3 + 1), mup (mup σ 85 3 (σ 85 3 + 1)) 109 3 (σ 109 3 + 1), p, s, ?_, e_mob (zr_isBox hx hR2 h11) ?_, r.refuse⟩
      · refine e_f (by decide) ?_
        by_cases c3 : y < 0
        · exact e_t c3 zc_ref3
        · exact e_f c3 (e_t (by omega) zc_ref3)
      · rw [mb_t c1]
        refine e_f (by decide) (e_mob (zr_isi (by omega)) ?_)
        rw [mb_f c2]
        exact e_t (by decide) zr_ref3
  · refine ⟨0, mup σ 85 3 (σ 85 3 + 1), mup (mup σ 85 3 (σ 85 3 + 1)) 109 3 (σ 109 3 + 1), p, s, ?_, e_mob (zr_isBox hx hR2 h11) ?_, r.refuse⟩
    · rw [mb_f c1]
      exact e_t (by decide) zc_ref3
    · rw [mb_f c1]
      exact e_t (by decide) zr_ref3
