/-! LAYER 2: gap -/
def xAbs (z : Int) : Int := if 0 ≤ z then z else -z
def xDst (B C : Nat → Int) : Int := xAbs (B 0 - C 0) + xAbs (B 1 - C 1)
theorem xAbs_rng {z a : Int} (h : -a ≤ z ∧ z ≤ a) : 0 ≤ xAbs z ∧ xAbs z ≤ a := by
  unfold xAbs
  split <;> omega
theorem z_abs {F : Nat} {σ : mMem} {z : Int} (h : sml z) : g_J9_abs_0f7a4 F z σ = some (xAbs z, σ) := by
  unfold g_J9_abs_0f7a4 g_J9_abs_0f7a4_b10 xAbs
  rw [mw_id (by omega) (by omega)]
  by_cases c : 0 ≤ z
  · exact (if_pos c).trans (by rw [if_pos c])
  · exact (if_neg c).trans (by rw [if_neg c])
theorem zc_dist {F a b : Nat} {σ : mMem} {B C : Nat → Int} (ha : a < 6) (hb : b < 6) (eB : BEq (cB σ 30 a) B) (eC : BEq (cB σ 30 b) C) (rB' : (0 ≤ B 0 ∧ B 0 < 9) ∧ 0 ≤ B 1 ∧ B 1 < 9) (rC : (0 ≤ C 0 ∧ C 0 < 9) ∧ 0 ≤ C 1 ∧ C 1 < 9) : g_X0_distance F (a : Int) (b : Int) σ = some (xDst B C, σ) := by
  have p0 : σ (29 + 1) (10 * a + 0) = B 0 := eB 0 (by decide)
  have p1 : σ (29 + 1) (10 * a + 1) = B 1 := eB 1 (by decide)
  have q0 : σ (29 + 1) (10 * b + 0) = C 0 := eC 0 (by decide)
  have q1 : σ (29 + 1) (10 * b + 1) = C 1 := eC 1 (by decide)
  unfold g_X0_distance
  refine e_mob (zo_0 ha) (e_mob (zo_0 hb) (e_mob (z_abs (by rw [p0, q0]; omega)) (e_mob (zo_1 ha) (e_mob (zo_1 hb) (e_mob (z_abs (by rw [p1, q1]; omega)) ?_)))))
  rw [p0, q0, p1, q1]
  rfl
theorem zr_away {F : Nat} {τ : mMem} {c d : Int} (hc : 0 ≤ c ∧ c ≤ 80) (hd : 0 ≤ d ∧ d ≤ 80) : g_X12_away F c d τ = some (xAbs (c % 9 - d % 9) + xAbs (c / 9 - d / 9), τ) := by
  unfold g_X12_away g_X12_away_b30 g_X12_away_b40
  rw [mw_id (z := c) (by omega) (by omega), mw_id (z := d) (by omega) (by omega), mw_id (z := 9) (by decide) (by decide), mtmod hc.1, mtmod hd.1, mtdiv hc.1, mtdiv hd.1]
  refine e_f (by decide) (e_f (by decide) (e_let (e_f (by decide) (e_f (by decide) (e_let ?_)))))
  rw [mw_id (z := c % 9 - d % 9) (by omega) (by omega), mw_id (z := c / 9 - d / 9) (by omega) (by omega)]
  unfold xAbs
  by_cases c1 : 0 ≤ c % 9 - d % 9
  · by_cases c2 : 0 ≤ c / 9 - d / 9
    · rw [if_pos c1, if_pos c2, if_pos c1, if_pos c2]
    · rw [if_pos c1, if_neg c2, if_pos c1, if_neg c2]
  · by_cases c2 : 0 ≤ c / 9 - d / 9
    · rw [if_neg c1, if_pos c2, if_neg c1, if_pos c2]
    · rw [if_neg c1, if_neg c2, if_neg c1, if_neg c2]
theorem BR.c9 {C R : Int} {B : Nat → Int} (h : BR C R B) (hC : C ≤ 9) (hR : R ≤ 9) : (0 ≤ B 0 ∧ B 0 < 9) ∧ 0 ≤ B 1 ∧ B 1 < 9 := by
  have := h.1
  omega
theorem xDst_rng {B C : Nat → Int} (rB' : (0 ≤ B 0 ∧ B 0 < 9) ∧ 0 ≤ B 1 ∧ B 1 < 9) (rC : (0 ≤ C 0 ∧ C 0 < 9) ∧ 0 ≤ C 1 ∧ C 1 < 9) : 0 ≤ xDst B C ∧ xDst B C ≤ 16 := by
  have h1 := xAbs_rng (z := B 0 - C 0) (a := 8) (by omega)
  have h2 := xAbs_rng (z := B 1 - C 1) (a := 8) (by omega)
  unfold xDst
  omega
/-- the reference's distance of two boxes of a layer -/
theorem zr_dst {F a b : Nat} {τ : mMem} {B C : Nat → Int} (eB : BEq (rB τ 1 a) B) (eC : BEq (rB τ 1 b) C) (hc : 0 ≤ τ 112 (6 + a) ∧ τ 112 (6 + a) ≤ 80) (hd : 0 ≤ τ 112 (6 + b) ∧ τ 112 (6 + b) ≤ 80) : g_X12_away F (τ 112 (6 + a)) (τ 112 (6 + b)) τ = some (xDst B C, τ) := by
  have b0 := eB 0 (by decide)
  have b1 := eB 1 (by decide)
  have c0 := eC 0 (by decide)
  have c1 := eC 1 (by decide)
  rw [rB_0, show 6 * 1 + a = 6 + a by omega] at b0
  rw [rB_1, show 6 * 1 + a = 6 + a by omega] at b1
  rw [rB_0, show 6 * 1 + b = 6 + b by omega] at c0
  rw [rB_1, show 6 * 1 + b = 6 + b by omega] at c1
  rw [zr_away hc hd, b0, b1, c0, c1]
  rfl
theorem j_gap {F p n a b k : Nat} {π σ0 : mMem} {lamp step : Int} {A : Nat → Nat → Int} (hF : 2000 ≤ F) (q : QC π p n lamp step 0 A) (hσ : PEq σ0 π p) (ha : a < n) (hb : b < n) (hk : step + k ≤ 999 ∧ k ≤ 80) : ∀ (d m fuel : Nat) (υ : mMem) (best : Int), d + m = k → d < fuel → 0 ≤ best ∧ best ≤ 16 → CR π p n lamp step 0 A m 29 υ σ0 → ∃ x σ', g_X0_nearest_h19 F 20 fuel (a : Int) (b : Int) (k : Int) best (m : Int) υ = some (x, σ') ∧ FC σ' σ0 ∧ ∀ τ0 τ, QR π p step 0 τ0 → LR π p n lamp step 0 A m τ τ0 → ∃ τ', g_X12_gap_h60 F fuel (a : Int) (b : Int) (k : Int) best (m : Int) τ = some (x, τ') ∧ TryF τ' τ0 := by
  have n6 := q.1.1
  have hs := q.2.2.2.2.1
  have hC := q.2.1.1.2
  have hR := q.2.1.2.1.2
  intro d
  induction d with
  | zero =>
    intro m fuel υ best h1 h2 h3 h
    obtain ⟨f, rfl⟩ : ∃ f, fuel = f + 1 := ⟨fuel - 1, by omega⟩
    refine ⟨best, υ, ?_, h.1, fun τ0 τ hr hL => ⟨τ, ?_, hL.1⟩⟩
    · unfold g_X0_nearest_h19
      exact e_t (by rw [mw_id (by omega) (by omega), mw_id (by omega) (by omega)]; omega) rfl
    · unfold g_X12_gap_h60
      exact e_t (by rw [mw_id (by omega) (by omega), mw_id (by omega) (by omega)]; omega) rfl
  | succ d ih =>
    intro m fuel υ best h1 h2 h3 h
    obtain ⟨f, rfl⟩ : ∃ f, fuel = f + 1 := ⟨fuel - 1, by omega⟩
    obtain ⟨υ1, a1, a2, -⟩ := q.c (F := F) (made := 0) hF hσ (by omega) (by decide) (fun _ _ => made0) h
    have Ra := (xIt_BR (lamp := lamp) (step := step) (delay := 0) q.2.2.2.2.2.2 (m + 1) a ha).c9 hC hR
    have Rb := (xIt_BR (lamp := lamp) (step := step) (delay := 0) q.2.2.2.2.2.2 (m + 1) b hb).c9 hC hR
    have dr := xDst_rng Ra Rb
    obtain ⟨x, σ', t1, t2, t3⟩ := ih (m + 1) f υ1 (min best (xDst (xIt π p n lamp step 0 A (m + 1) a) (xIt π p n lamp step 0 A (m + 1) b))) (by omega) (by omega) (by omega) a2
    refine ⟨x, σ', ?_, t2, fun τ0 τ hr hL => ?_⟩
    · unfold g_X0_nearest_h19
      refine e_f (by rw [mw_id (by omega) (by omega), mw_id (by omega) (by omega)]; omega) (e_mob a1 (e_mob (zc_dist (by omega) (by omega) (a2.2.1 a ha) (a2.2.1 b hb) Ra Rb) (e_mob (z_min (by omega)) ?_)))
      rw [← t1, show ((m + 1 : Nat) : Int) = (m : Int) + 1 by omega]
    · obtain ⟨τ1, b1, b2, -⟩ := q.r (F := F) hF hr (by omega) hL
      obtain ⟨τ', u1, u2⟩ := t3 τ0 τ1 hr b2
      refine ⟨τ', ?_, u2⟩
      unfold g_X12_gap_h60 g_X12_gap_b110
      refine e_f (by rw [mw_id (by omega) (by omega), mw_id (by omega) (by omega)]; omega) (e_mob b1 ?_)
      rw [mw_id (z := 6 + (a : Int)) (by omega) (by omega), show (6 + (a : Int)).toNat = 6 + a by omega, mw_id (z := 6 + (b : Int)) (by omega) (by omega), show (6 + (b : Int)).toNat = 6 + b by omega]
      refine e_t (by omega) (e_t (by omega) (e_mob (zr_dst (b2.2.1 a ha).1 (b2.2.1 b hb).1 (b2.2.1 a ha).2 (b2.2.1 b hb).2) ?_))
      rw [mw_id (z := best) (by omega) (by omega), mw_id (z := xDst (xIt π p n lamp step 0 A (m + 1) a) (xIt π p n lamp step 0 A (m + 1) b)) (by omega) (by omega), ← u1, show ((m + 1 : Nat) : Int) = (m : Int) + 1 by omega]
      by_cases c : best ≤ xDst (xIt π p n lamp step 0 A (m + 1) a) (xIt π p n lamp step 0 A (m + 1) b)
      · rw [if_pos c, show min best (xDst (xIt π p n lamp step 0 A (m + 1) a) (xIt π p n lamp step 0 A (m + 1) b)) = best by omega]
      · rw [if_neg c, show min best (xDst (xIt π p n lamp step 0 A (m + 1) a) (xIt π p n lamp step 0 A (m + 1) b)) = xDst (xIt π p n lamp step 0 A (m + 1) a) (xIt π p n lamp step 0 A (m + 1) b) by omega]
theorem a_gap {F : Nat} {σ : mMem} {p s : Nat} {N x y z : Int} (hF : 2000 ≤ F) (hx : i32 x) (hy : i32 y) (hz : i32 z) (r : Rel σ p s N) : Alk (g_X11_gap F x y z) (g_X12_gap F x y z) σ N := by
  have sm := r.same (N' := N + 1) (by omega) (fun _ _ _ => rfl) (fun _ _ _ => rfl)
  obtain ⟨hp, h08, h08n, h20, h20n, hP, hR, h11, h9, h10, hB, hst, hla, h57, h60, h62⟩ := r.now
  obtain ⟨n, q, h3, hE, hc, hq⟩ := r.q
  have n11 := q.2.2.1
  have n6 := q.1.1
  unfold Alk g_X11_gap g_X12_gap g_X11_gap_b27 g_X12_gap_b32 g_X11_gap_b61
  rw [h08n]
  simp only [if_pos h08, zc_hasBox hx h11, mob_sm, mw_id hx.1 hx.2, mw_id hy.1 hy.2]
  by_cases c1 : 0 ≤ x ∧ x < σ p 11
  · by_cases c2 : 0 ≤ y ∧ y < σ p 11
    · by_cases c3 : x = y
      · refine ⟨-1, σ, σ, p, s, ?_, e_mob (zr_isBox hx hR h11) ?_, sm⟩
        · rw [mb_t c1, h08n]
          refine e_f (by decide) (e_mob (zc_hasBox hy h11) ?_)
          rw [mb_t c2]
          exact e_f (by decide) (e_f (fun e => e c3) rfl)
        · rw [mb_t c1]
          refine e_f (by decide) (e_mob (zr_isBox hy hR h11) ?_)
          rw [mb_t c2]
          exact e_f (by decide) (e_t c3 rfl)
      · by_cases c4 : 0 ≤ z ∧ z ≤ 80 ∧ σ 20 4 ≤ 999 - z
        · obtain ⟨a, ea⟩ : ∃ a : Nat, x = (a : Int) := ⟨x.toNat, by omega⟩
          subst ea
          obtain ⟨b, eb⟩ : ∃ b : Nat, y = (b : Int) := ⟨y.toNat, by omega⟩
          subst eb
          obtain ⟨k, ek⟩ : ∃ k : Nat, z = (k : Int) := ⟨z.toNat, by omega⟩
          subst ek
          have ha : a < n := by omega
          have hb : b < n := by omega
          have hC := q.2.1.1.2
          have hR9 := q.2.1.2.1.2
          have Ra := (q.2.2.2.2.2.2 a ha).c9 hC hR9
          have Rb := (q.2.2.2.2.2.2 b hb).c9 hC hR9
          obtain ⟨υ, s1, s2, -⟩ := zc_start (F := F) (p := p) (n := n) (o := 29) (σ := σ) (π := σ) (delay := 0) (Or.inl rfl) q.1.1 q.1.2 h3 rfl rfl
          obtain ⟨w, σ1, t1, t2, t3⟩ := j_gap (F := F) (a := a) (b := b) (k := k) hF q PEq.rfl' ha hb (by omega) k 0 F υ (xDst (cB σ 21 a) (cB σ 21 b)) (by omega) (by omega) (xDst_rng Ra Rb) s2
          obtain ⟨u, us, uf⟩ := hq σ1 t2
          obtain ⟨τ, v1, v2⟩ := us F hF
          obtain ⟨τ', w1, w2⟩ := t3 σ1 τ u v2
          refine ⟨w, σ1, τ', p, s, ?_, e_mob (zr_isBox hx u.1 h11) ?_, uf τ' w2⟩
          · rw [mb_t c1, h08n]
            refine e_f (by decide) (e_mob (zc_hasBox hy h11) ?_)
            rw [mb_t c2]
            refine e_f (by decide) (e_t c3 (e_mob (zc_may hz hst.2 (by decide) (by decide)) ?_))
            rw [mb_t c4]
            refine e_f (by decide) (e_mob ?_ rfl)
            unfold g_X0_nearest
            exact e_mob s1 (e_mob (zc_dist (by omega) (by omega) (s2.2.1 a ha) (s2.2.1 b hb) Ra Rb) t1)
          · rw [mb_t c1]
            refine e_f (by decide) (e_mob (zr_isBox hy u.1 h11) ?_)
            rw [mb_t c2]
            refine e_f (by decide) (e_f c3 (e_mob (zr_ahead hz (by rw [u.2.2.2.2]; exact hst.2) (by decide) (by decide)) ?_))
            rw [u.2.2.2.2, mb_t c4]
            refine e_t (by decide) (e_mob v1 ?_)
            rw [show ((a : Int)).toNat = a by omega, show ((b : Int)).toNat = b by omega]
            have l0 : ∀ j, j < n → (τ 112 j = σ 112 j ∧ τ 112 j % 9 = cB σ 21 j 0) ∧ τ 112 j / 9 = cB σ 21 j 1 := fun j hj => by
              have e : τ 112 j = σ 112 j := by rw [v2.1.2.2.2.2.1 112 (by decide) (by decide) j (by omega), t2 112 (by decide)]
              have e0 := hE j hj 0 (by decide)
              have e1 := hE j hj 1 (by decide)
              rw [rB_0, show 6 * 0 + j = j by omega] at e0
              rw [rB_1, show 6 * 0 + j = j by omega] at e1
              rw [e, e0, e1]
              exact ⟨⟨rfl, rfl⟩, rfl⟩
            have la := l0 a ha
            have lb := l0 b hb
            have hca := hc a ha
            have hcb := hc b hb
            refine e_t (by omega) (e_t (by omega) (e_mob (zr_away (by omega) (by omega)) ?_))
            rw [la.1.2, la.2, lb.1.2, lb.2]
            exact w1
        · refine ⟨-1, σ, σ, p, s, ?_, e_mob (zr_isBox hx hR h11) ?_, sm⟩
          · rw [mb_t c1, h08n]
            refine e_f (by decide) (e_mob (zc_hasBox hy h11) ?_)
            rw [mb_t c2]
            refine e_f (by decide) (e_t c3 (e_mob (zc_may hz hst.2 (by decide) (by decide)) ?_))
            rw [mb_f c4]
            exact e_t (by decide) rfl
          · rw [mb_t c1]
            refine e_f (by decide) (e_mob (zr_isBox hy hR h11) ?_)
            rw [mb_t c2]
            refine e_f (by decide) (e_f c3 (e_mob (zr_ahead hz (by rw [hst.1]; exact hst.2) (by decide) (by decide)) ?_))
            rw [hst.1, mb_f c4]
            exact e_f (by decide) rfl
    · refine ⟨-1, σ, σ, p, s, ?_, e_mob (zr_isBox hx hR h11) ?_, sm⟩
      · rw [mb_t c1, h08n]
        refine e_f (by decide) (e_mob (zc_hasBox hy h11) ?_)
        rw [mb_f c2]
        exact e_t (by decide) rfl
      · rw [mb_t c1]
        refine e_f (by decide) (e_mob (zr_isBox hy hR h11) ?_)
        rw [mb_f c2]
        exact e_t (by decide) rfl
  · refine ⟨-1, σ, σ, p, s, ?_, e_mob (zr_isBox hx hR h11) ?_, sm⟩
    · rw [mb_f c1]
      exact e_t (by decide) rfl
    · rw [mb_f c1]
      exact e_t (by decide) rfl
