/-! LAYER 2: put -/
theorem a_put {F : Nat} {σ : mMem} {p s : Nat} {N x y z : Int} (hF : 2000 ≤ F) (hx : i32 x) (hy : i32 y) (hz : i32 z) (r : Rel σ p s N) : Alk (g_X11_put F x y z) (g_X12_put_ F x y z) σ N := by
  obtain ⟨hp, h08, h08n, h20, h20n, hP, hR, h11, h9, h10, hB, hst, hla, h57, h60, h62⟩ := r.now
  obtain ⟨n, en⟩ : ∃ n : Nat, σ p 11 = (n : Int) := ⟨(σ p 11).toNat, by omega⟩
  unfold Alk g_X11_put g_X12_put_ g_X11_put_b36 g_X12_put__b32 g_X12_put__b45
  have hR2 : PlR σ p (mup σ 85 3 (σ 85 3 + 1)) := hR.same (fun q q1 q2 => mup_off (by omega)) (by rw [mup_off (by decide)])
  simp only [h08n, if_pos h08, zc_hasBox hx h11, mob_sm, mw_id hx.1 hx.2]
  by_cases c1 : 0 ≤ x ∧ x < σ p 11
  · obtain ⟨b, eb⟩ : ∃ b : Nat, x = (b : Int) := ⟨x.toNat, by omega⟩
    subst eb
    have hb : b < (σ p 11).toNat := by omega
    obtain ⟨B1, B2, B3⟩ := hB b hb
    rw [mb_t c1]
    by_cases c2 : sOn (σ p 9) (σ p 10) y z
    · have hw : g_X10_boxOn F 20 y z σ = some (xWho (cB σ 21) y z n, σ) := zc_boxOn (p := p) hF h20 h20n en (by omega) (by omega) (by omega) (fun k hk => (hB k (by omega)).2.2) (by omega) (by omega)
      have rw' : ∀ τ : mMem, PlR σ p τ → (∀ q, 112 ≤ q → q ≤ 116 → ∀ k, k < 6 → τ q k = σ q k) → g_X12_who F 0 (9 * z + y) τ = some (xWho (cB σ 21) y z n, τ) := by
        intro τ hRt hq
        have c0 : ∀ j, j < n → τ 112 (6 * 0 + j) = σ 112 (6 * 0 + j) := fun j hj => by rw [show 6 * 0 + j = j by omega]; exact hq 112 (by decide) (by decide) j (by omega)
        have := zr_who (F := F) (v := 0) (n := n) (c := y) (r := z) (by decide) (by omega) hRt en (by omega) (fun j hj => by rw [c0 j hj]; exact (hB j (by omega)).2.1.1) (by omega) (by omega)
        rw [xWho_congr (A' := cB σ 21) (fun k hk => ?_)] at this
        · exact this
        · have e0 := (hB k (by omega)).1 0 (by decide)
          have e1 := (hB k (by omega)).1 1 (by decide)
          rw [rB_0] at e0
          rw [rB_1] at e1
          rw [rB_0, rB_1, c0 k hk, e0, e1]
          exact ⟨rfl, rfl⟩
      have wr := xWho_rng (A := cB σ 21) (c := y) (r := z) n
      by_cases c3 : xWho (cB σ 21) y z n = -1
      · obtain ⟨σa, a1, a2, a4⟩ := r.box1 hF
        obtain ⟨σ1, e1⟩ : ∃ w, w = mup (mup σa (20 + 1) (10 * b + 0) y) (20 + 1) (10 * b + 1) z := ⟨_, rfl⟩
        have o1 : ∀ q, q ≠ 21 → σ1 q = σa q := fun q hq => by rw [e1, mup_off (by omega), mup_off (by omega)]
        obtain ⟨τa, b1, b2, b5⟩ := a4 σ1 o1
        obtain ⟨τ, e2⟩ : ∃ w, w = mup τa 112 b (9 * z + y) := ⟨_, rfl⟩
        have o2 : ∀ q, q ≠ 112 → q ≠ 113 → τ q = τa q := fun q hq _ => by rw [e2, mup_off hq]
        obtain ⟨⟨t21, bk⟩, fin⟩ := b5 τ o2 (fun j hj => ⟨by rw [e2, mup_ne (by omega)], by rw [e2, mup_off (by decide)]⟩)
        have t112 : ∀ k, k < 6 → k ≠ b → τ 112 k = σ 112 k := fun k hk hkb => by rw [e2, mup_ne (by omega), b2 112 (by decide) (by decide) k hk]
        have tq : ∀ q, 113 ≤ q → q ≤ 116 → ∀ k, k < 6 → τ q k = σ q k := fun q q1 q2 k hk => by rw [e2, mup_off (by omega), b2 q (by omega) q2 k hk]
        have q1q : ∀ q, q ≠ 21 → ¬ (56 ≤ q ∧ q ≤ 75) → q ≠ 54 → σ1 q = σ q := fun q q1 q2 q3 => by rw [o1 q q1, a2 q q2 q3]
        have hR1 : PlR σ p σ1 := hR.same (fun q q1 q2 => q1q q (by omega) (by omega) (by omega)) (by rw [q1q 86 (by decide) (by decide) (by decide)])
        refine ⟨1, σ1, τ, p, s, ?_, e_mob (zr_isBox hx hR1 h11) ?_, fin (fun k hk => ?_)⟩
        · refine e_f (by decide) (e_mob (z_hasCelli hy hz (by omega) (by omega)) ?_)
          rw [mb_t c2]
          refine e_f (by decide) (e_mob hw (e_t (by rw [c3]) (e_mob a1 (e_mob (zs_0 (by omega)) (e_mob (zs_1 (by omega)) ?_)))))
          rw [e1]
          exact e_t (by decide) rfl
        · rw [mb_t c1]
          refine e_f (by decide) (e_mob (zr_isOni hy hz hR1 h9 h10) ?_)
          rw [mb_t c2, show ((b : Int)).toNat = b by omega]
          refine e_f (by decide) (e_mob (rw' σ1 hR1 (fun q q1 q2 k _ => by rw [q1q q (by omega) (by omega) (by omega)])) (e_t (by rw [c3]) (e_mob b1 (e_t (by omega) (e_mem ?_)))))
          rw [e2]
          exact e_t (by decide) rfl
        · by_cases ck : k = b
          · subst ck
            have k6 : k < 6 := by omega
            have tb : τ 112 k = 9 * z + y := by rw [e2, mup_at rfl rfl]
            have tc0 : τ 21 (10 * k + 0) = y := by rw [t21, e1, mup_ne (by omega), mup_at rfl rfl]
            have tc1 : τ 21 (10 * k + 1) = z := by rw [t21, e1, mup_at rfl rfl]
            have r0' : rB τ 0 k 0 = y := by rw [rB_0, show 6 * 0 + k = k by omega, tb]; omega
            have r1' : rB τ 0 k 1 = z := by rw [rB_1, show 6 * 0 + k = k by omega, tb]; omega
            have rn : ∀ f, f ≠ 0 ∧ f ≠ 1 → rB τ 0 k f = rB σ 0 k f := fun f hf => rB_n01 hf bk.2.2.1 bk.2.2.2.1 bk.2.1 bk.2.2.2.2.1 bk.2.2.2.2.2.1 bk.2.2.2.2.2.2 (fun q q1 q2 => tq q q1 q2 k k6)
            have cn : ∀ f, f < 9 → f ≠ 0 ∧ f ≠ 1 → cB τ 21 k f = cB σ 21 k f := fun f _ hf => by
              show τ 21 (10 * k + f) = σ 21 (10 * k + f)
              rw [t21, e1, mup_ne (by omega), mup_ne (by omega), a2 21 (by decide) (by decide)]
            refine ⟨fun f hf => ?_, ?_, ?_⟩
            · by_cases cf : f = 0
              · subst cf
                rw [r0']
                exact tc0
              · by_cases cf1 : f = 1
                · subst cf1
                  rw [r1']
                  exact tc1
                · rw [cn f hf ⟨cf, cf1⟩, rn f ⟨cf, cf1⟩]
                  exact B1 f hf
            · rw [show 6 * 0 + k = k by omega, tb]
              omega
            · obtain ⟨q0, q2, q3, q4, q5, q6, q7, q8⟩ := B2.2
              refine ⟨by rw [r0', r1']; omega, by rw [rn 2 (by decide)]; exact q2, by rw [rn 3 (by decide)]; exact q3, by rw [rn 4 (by decide)]; exact q4, by rw [rn 5 (by decide)]; exact q5, by rw [rn 6 (by decide)]; exact q6, by rw [rn 7 (by decide)]; exact q7, by rw [rn 8 (by decide)]; exact q8⟩
          · have := SR.box (τ := τ) (L' := 0) hk h11.2 bk ⟨(hB k hk).1, (hB k hk).2.1⟩ (fun g hg => by rw [t21, e1, mup_ne (by omega), mup_ne (by omega), a2 21 (by decide) (by decide)]) (fun q q1 q2 => by
              rw [show 6 * 0 + k = k by omega]
              by_cases c13 : q = 112
              · rw [c13]; exact t112 k (by omega) ck
              · exact tq q (by omega) q2 k (by omega))
            rw [bk.1] at this
            exact this
      · refine ⟨0, mup σ 85 3 (σ 85 3 + 1), mup (mup σ 85 3 (σ 85 3 + 1)) 109 3 (σ 109 3 + 1), p, s, ?_, e_mob (zr_isBox hx hR2 h11) ?_, r.refuse⟩
        · refine e_f (by decide) (e_mob (z_hasCelli hy hz (by omega) (by omega)) ?_)
          rw [mb_t c2]
          exact e_f (by decide) (e_mob hw (e_f (by rw [mw_id (by omega) (by omega), mw_id (by omega) (by omega)]; exact c3) zc_ref3))
        · rw [mb_t c1]
          refine e_f (by decide) (e_mob (zr_isOni hy hz hR2 h9 h10) ?_)
          rw [mb_t c2]
          exact e_f (by decide) (e_mob (rw' _ hR2 (fun q q1 q2 k _ => by rw [mup_off (by omega)])) (e_f (by rw [mw_id (by omega) (by omega), mw_id (by omega) (by omega)]; exact c3) zr_ref3))
    · refine ⟨0, mup σ 85 3 (σ 85 3 + 1), mup (mup σ 85 3 (σ 85 3 + 1)) 109 3 (σ 109 3 + 1), p, s, ?_, e_mob (zr_isBox hx hR2 h11) ?_, r.refuse⟩
      · refine e_f (by decide) (e_mob (z_hasCelli hy hz (by omega) (by omega)) ?_)
        rw [mb_f c2]
        exact e_t (by decide) zc_ref3
      · rw [mb_t c1]
        refine e_f (by decide) (e_mob (zr_isOni hy hz hR2 h9 h10) ?_)
        rw [mb_f c2]
        exact e_t (by decide) zr_ref3
  · refine ⟨0, mup σ 85 3 (σ 85 3 + 1), mup (mup σ 85 3 (σ 85 3 + 1)) 109 3 (σ 109 3 + 1), p, s, ?_, e_mob (zr_isBox hx hR2 h11) ?_, r.refuse⟩
    · rw [mb_f c1]
      exact e_t (by decide) zc_ref3
    · rw [mb_f c1]
      exact e_t (by decide) zr_ref3
