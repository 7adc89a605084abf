/-! LAYER 2: has, whole -/
def bkf (σ : mMem) (p : Nat) (lamp : Int) (c r : Int) : Int := mb (sOn (σ p 9) (σ p 10) c r ∧ 5 ≤ sGrey (σ p 9) (σ p 10) (σ (p + 1)) c r - lamp)
theorem zc_black {F o p C R : Nat} {σ : mMem} (hF : 2000 ≤ F) (h20 : σ o 3 = 3 ∨ σ o 3 = 8) (h20n : (σ o 3).toNat = p) (hP : PlC σ p) (hl : 0 ≤ σ o 5 ∧ σ o 5 ≤ 9) (hC : σ p 9 = (C : Int)) (hR : σ p 10 = (R : Int)) : g_X10_blackCells F o σ = some (xSum (fun c => xSum (fun r => bkf σ p (σ o 5) c r) R) C, σ) := by
  have h9 := hP.1
  have h10 := hP.2.1
  have inner : ∀ (k4 : Int → Int → mMem → mRs) (acc : Int) (c : Nat), c < C → ∀ (d r fuel : Nat), d + r = R → d < fuel → g_X10_blackCells_h17 F o k4 fuel (acc + xSum (fun r => bkf σ p (σ o 5) c r) r) (c : Int) (r : Int) σ = k4 (acc + xSum (fun r => bkf σ p (σ o 5) c r) R) ((c + 1 : Nat) : Int) σ := by
    intro k4 acc c hc d
    induction d with
    | zero =>
      intro r fuel h1 h2
      obtain ⟨f, rfl⟩ : ∃ f, fuel = f + 1 := ⟨fuel - 1, by omega⟩
      have e : r = R := by omega
      subst e
      unfold g_X10_blackCells_h17
      rw [h20n, hR]
      refine e_t h20 (e_t (Int.le_refl _) ?_)
      rw [show ((c + 1 : Nat) : Int) = (c : Int) + 1 by omega]
    | succ d ih =>
      intro r fuel h1 h2
      obtain ⟨f, rfl⟩ : ∃ f, fuel = f + 1 := ⟨fuel - 1, by omega⟩
      have i := ih (r + 1) f (by omega) (by omega)
      rw [← i]
      have hon : sOn (σ p 9) (σ p 10) (c : Int) (r : Int) := by unfold sOn; omega
      have eb := zc_isBlack (F := F) (o := o) (c := (c : Int)) (r := (r : Int)) h20 h20n hP hl (by omega) (by omega)
      conv => lhs; unfold g_X10_blackCells_h17 g_X10_blackCells_b43
      rw [h20n, hR]
      refine e_t h20 (e_f (by rw [mw_id (by omega) (by omega), mw_id (by omega) (by omega)]; omega) (e_mob eb ?_))
      have es : xSum (fun r => bkf σ p (σ o 5) c r) (r + 1) = xSum (fun r => bkf σ p (σ o 5) c r) r + bkf σ p (σ o 5) c r := rfl
      rw [es, show ((r + 1 : Nat) : Int) = (r : Int) + 1 by omega, ← Int.add_assoc]
      by_cases c5 : 5 ≤ sGrey (σ p 9) (σ p 10) (σ (p + 1)) (c : Int) (r : Int) - σ o 5
      · rw [mb_t c5, show bkf σ p (σ o 5) (c : Int) (r : Int) = 1 from mb_t ⟨hon, c5⟩]
        exact e_f (by decide) rfl
      · rw [mb_f c5, show bkf σ p (σ o 5) (c : Int) (r : Int) = 0 from mb_f (fun q => c5 q.2)]
        exact e_t (by decide) rfl
  have key : ∀ (d c fuel : Nat), d + c = C → d < fuel → g_X10_blackCells_h4 F o fuel (xSum (fun c => xSum (fun r => bkf σ p (σ o 5) c r) R) c) (c : Int) σ = some (xSum (fun c => xSum (fun r => bkf σ p (σ o 5) c r) R) C, σ) := by
    intro d
    induction d with
    | zero =>
      intro c fuel h1 h2
      obtain ⟨f, rfl⟩ : ∃ f, fuel = f + 1 := ⟨fuel - 1, by omega⟩
      have e : c = C := by omega
      subst e
      unfold g_X10_blackCells_h4
      rw [h20n, hC]
      exact e_t h20 (e_t (Int.le_refl _) rfl)
    | succ d ih =>
      intro c fuel h1 h2
      obtain ⟨f, rfl⟩ : ∃ f, fuel = f + 1 := ⟨fuel - 1, by omega⟩
      have i := ih (c + 1) f (by omega) (by omega)
      unfold g_X10_blackCells_h4
      rw [h20n, hC]
      refine e_t h20 (e_f (by rw [mw_id (by omega) (by omega), mw_id (by omega) (by omega)]; omega) ?_)
      have j := inner (g_X10_blackCells_h4 F o f) (xSum (fun c => xSum (fun r => bkf σ p (σ o 5) c r) R) c) c (by omega) R 0 F (by omega) (by omega)
      rw [show xSum (fun r => bkf σ p (σ o 5) (c : Int) r) 0 = 0 from rfl, Int.add_zero] at j
      exact j.trans i
  exact key C 0 F (by omega) (by omega)
theorem m9m {k : Nat} (h : k < 81) : (mw (k : Int)).tmod (mw 9) = ((k % 9 : Nat) : Int) := by simp (disch := omega) only [mw_id, mwl_id, mtmod, mtdiv]; omega
theorem m9d {k : Nat} (h : k < 81) : (mw (k : Int)).tdiv (mw 9) = ((k / 9 : Nat) : Int) := by simp (disch := omega) only [mw_id, mwl_id, mtmod, mtdiv]; omega
theorem zr_black {F p : Nat} {π τ : mMem} {lamp : Int} (hF : 2000 ≤ F) (hR : PlR π p τ) (hP : PlC π p) (hlamp : τ 111 0 = lamp) (hl : 0 ≤ lamp ∧ lamp ≤ 9) : g_X12_has_h92 F F 0 0 τ = some (xSum (fun i => bkf π p lamp ((i % 9 : Nat) : Int) ((i / 9 : Nat) : Int)) 81, τ) := by
  have key : ∀ (d k fuel : Nat), d + k = 81 → d < fuel → g_X12_has_h92 F fuel (xSum (fun i => bkf π p lamp ((i % 9 : Nat) : Int) ((i / 9 : Nat) : Int)) k) (k : Int) τ = some (xSum (fun i => bkf π p lamp ((i % 9 : Nat) : Int) ((i / 9 : Nat) : Int)) 81, τ) := by
    intro d
    induction d with
    | zero =>
      intro k fuel h1 h2
      obtain ⟨f, rfl⟩ : ∃ f, fuel = f + 1 := ⟨fuel - 1, by omega⟩
      have e : k = 81 := by omega
      subst e
      unfold g_X12_has_h92
      exact e_t (by decide) rfl
    | succ d ih =>
      intro k fuel h1 h2
      obtain ⟨f, rfl⟩ : ∃ f, fuel = f + 1 := ⟨fuel - 1, by omega⟩
      have i := ih (k + 1) f (by omega) (by omega)
      have es : xSum (fun i => bkf π p lamp ((i % 9 : Nat) : Int) ((i / 9 : Nat) : Int)) (k + 1) = xSum (fun i => bkf π p lamp ((i % 9 : Nat) : Int) ((i / 9 : Nat) : Int)) k + bkf π p lamp ((k % 9 : Nat) : Int) ((k / 9 : Nat) : Int) := rfl
      rw [es, show ((k + 1 : Nat) : Int) = (k : Int) + 1 by omega] at i
      unfold g_X12_has_h92 g_X12_has_b127 g_X12_has_b128
      refine e_f (by rw [mw_id (by omega) (by omega), mw_id (by omega) (by omega)]; omega) (e_f (by decide) (e_f (by decide) ?_))
      rw [m9m (k := k) (by omega), m9d (k := k) (by omega)]
      refine e_mob (zr_isOni (by omega) (by omega) hR hP.1 hP.2.1) ?_
      by_cases hon : sOn (π p 9) (π p 10) ((k % 9 : Nat) : Int) ((k / 9 : Nat) : Int)
      · rw [mb_t hon]
        have eb := zr_isBlack (F := F) (v := 0) (c := ((k % 9 : Nat) : Int)) (r := ((k / 9 : Nat) : Int)) (by decide) hR hP hlamp hl
        rw [if_pos hon, show 9 * ((k / 9 : Nat) : Int) + ((k % 9 : Nat) : Int) = (k : Int) by omega] at eb
        refine e_f (by decide) (e_mob eb ?_)
        by_cases c5 : 5 ≤ sGrey (π p 9) (π p 10) (π (p + 1)) ((k % 9 : Nat) : Int) ((k / 9 : Nat) : Int) - lamp
        · rw [show bkf π p lamp ((k % 9 : Nat) : Int) ((k / 9 : Nat) : Int) = 1 from mb_t ⟨hon, c5⟩] at i
          rw [mb_t c5]
          exact e_f (by decide) (e_let i)
        · rw [show bkf π p lamp ((k % 9 : Nat) : Int) ((k / 9 : Nat) : Int) = 0 from mb_f (fun q => c5 q.2)] at i
          rw [mb_f c5]
          exact e_t (by decide) (e_let i)
      · rw [show bkf π p lamp ((k % 9 : Nat) : Int) ((k / 9 : Nat) : Int) = 0 from mb_f (fun q => hon q.1)] at i
        rw [mb_f hon]
        exact e_t (by decide) (e_let i)
  exact key 81 0 F (by omega) (by omega)
theorem xSum_z {f : Nat → Int} {n : Nat} : ∀ d : Nat, (∀ k, n ≤ k → f k = 0) → xSum f (n + d) = xSum f n
  | 0, _ => rfl
  | d + 1, h => by
    show xSum f (n + d) + f (n + d) = _
    rw [xSum_z d h, h (n + d) (by omega), Int.add_zero]
theorem sum81 (g : Nat → Nat → Int) : xSum (fun i => g (i % 9) (i / 9)) 81 = xSum (fun c => xSum (fun r => g c r) 9) 9 := by
  simp only [xSum, Nat.reduceMod, Nat.reduceDiv]
  omega
theorem black_sum {σ : mMem} {p C R : Nat} {lamp : Int} (hC : σ p 9 = (C : Int)) (hR : σ p 10 = (R : Int)) (h9 : C ≤ 9) (h10 : R ≤ 9) : xSum (fun i => bkf σ p lamp ((i % 9 : Nat) : Int) ((i / 9 : Nat) : Int)) 81 = xSum (fun c => xSum (fun r => bkf σ p lamp c r) R) C := by
  rw [sum81 (fun c r => bkf σ p lamp (c : Int) (r : Int))]
  have off : ∀ c r : Nat, (C ≤ c ∨ R ≤ r) → bkf σ p lamp (c : Int) (r : Int) = 0 := fun c r h => mb_f (fun q => by have := q.1; unfold sOn at this; omega)
  obtain ⟨d, ed⟩ : ∃ d, 9 = C + d := ⟨9 - C, by omega⟩
  obtain ⟨e, ee⟩ : ∃ e, 9 = R + e := ⟨9 - R, by omega⟩
  have h1 : ∀ c : Nat, xSum (fun r => bkf σ p lamp (c : Int) (r : Int)) 9 = xSum (fun r => bkf σ p lamp (c : Int) (r : Int)) R := fun c => by
    conv => lhs; rw [ee]
    exact xSum_z e (fun k hk => off c k (Or.inr hk))
  have h2 : xSum (fun c => xSum (fun r => bkf σ p lamp (c : Int) (r : Int)) 9) 9 = xSum (fun c => xSum (fun r => bkf σ p lamp (c : Int) (r : Int)) R) 9 := xSum_congr (fun c _ => h1 c)
  rw [h2]
  conv => lhs; rw [ed]
  refine xSum_z d (fun c hc => ?_)
  have := xSum_z (f := fun r => bkf σ p lamp (c : Int) (r : Int)) (n := 0) R (fun k _ => off c k (Or.inl hc))
  rw [Nat.zero_add] at this
  exact this
theorem a_has {F : Nat} {σ : mMem} {p s : Nat} {N x : Int} (hF : 2000 ≤ F) (hx : i32 x) (hN : N ≤ 10000) (r : Rel σ p s N) : Alk (g_X11_has F x) (g_X12_has F x) σ N := by
  have sm := r.same (N' := N + 1) (by omega) (fun _ _ _ => rfl) (fun _ _ _ => rfl)
  obtain ⟨hp, h08, h08n, h20, h20n, hP, hR, h11, h9, h10, hB, hst, hla, h57, h60, -⟩ := r.now
  obtain ⟨-, -, -, ⟨k1, k2, k3⟩, k4⟩ := r.2.2.2.2.2.1.1
  have hb := hR.1
  have mbk : mw (σ 86 13) = σ 86 13 := mw_id (by omega) (by omega)
  obtain ⟨n, en⟩ : ∃ n : Nat, σ p 11 = (n : Int) := ⟨(σ p 11).toNat, by omega⟩
  obtain ⟨C, eC⟩ : ∃ n : Nat, σ p 9 = (n : Int) := ⟨(σ p 9).toNat, by omega⟩
  obtain ⟨R, eR⟩ : ∃ n : Nat, σ p 10 = (n : Int) := ⟨(σ p 10).toNat, by omega⟩
  have u4 := r.2.2.2.2.2.2.1.2.1
  have sd := r.2.2.2.1.1
  have et : g_X3_told F σ = some (min 60 (σ 54 2), σ) := by
    unfold g_X3_told
    refine e_mob (z_min (by omega)) ?_
    rw [Int.min_comm]
  have m0 : (mw 0).toNat = 0 := by decide
  suffices h : ∃ v, g_X11_has F x σ = some (v, σ) ∧ g_X12_has F x σ = some (v, σ) by
    obtain ⟨v, v1, v2⟩ := h
    exact ⟨v, σ, σ, p, s, v1, v2, sm⟩
  unfold g_X11_has g_X12_has
  rw [h08n, mbk, mw_id (z := x) (by omega) (by omega), m0]
  by_cases c0 : x = 0
  · exact ⟨σ p 9, e_t c0 (e_t h08 rfl), e_t c0 (e_t (by omega) (by rw [hR.2.1]))⟩
  by_cases c1 : x = 1
  · exact ⟨σ p 10, e_f c0 (e_t c1 (e_t h08 rfl)), e_f c0 (e_t c1 (e_t (by omega) (by rw [hR.2.2.1])))⟩
  by_cases c2 : x = 2
  · exact ⟨σ p 11, e_f c0 (e_f c1 (e_t c2 (e_t h08 rfl))), e_f c0 (e_f c1 (e_t c2 (e_t (by omega) (by rw [hR.2.2.2.1]))))⟩
  by_cases c3 : x = 3
  · refine ⟨_, e_f c0 (e_f c1 (e_f c2 (e_t c3 (e_mob (zc_black hF h20 h20n hP (by omega) eC eR) rfl)))), e_f c0 (e_f c1 (e_f c2 (e_t c3 ?_)))⟩
    rw [← black_sum eC eR (by omega) (by omega)]
    exact zr_black hF hR hP hla.1 (by omega)
  by_cases c4 : x = 4
  · exact ⟨σ 20 4, e_f c0 (e_f c1 (e_f c2 (e_f c3 (e_t c4 rfl)))), e_f c0 (e_f c1 (e_f c2 (e_f c3 (e_t c4 (e_t (by decide) (by rw [hst.1]))))))⟩
  by_cases c5 : x = 5
  · exact ⟨σ 20 5, e_f c0 (e_f c1 (e_f c2 (e_f c3 (e_f c4 (e_t c5 rfl))))), e_f c0 (e_f c1 (e_f c2 (e_f c3 (e_f c4 (e_t c5 (e_t (by decide) (by rw [hla.1])))))))⟩
  by_cases c6 : x = 6
  · refine ⟨_, e_f c0 (e_f c1 (e_f c2 (e_f c3 (e_f c4 (e_f c5 (e_t c6 (e_mob (zc_lost hF h20 h20n en (by omega) (fun k hk => ?_)) rfl))))))), e_f c0 (e_f c1 (e_f c2 (e_f c3 (e_f c4 (e_f c5 (e_t c6 ?_))))))⟩
    · have := (hB k (by omega)).2.2.2.2.2.1
      show sml (cB σ 21 k 4)
      omega
    · rw [xSum_congr (g := fun k => mb (0 < σ 115 k)) (fun k hk => by
        have b := (hB k (by omega)).1 4 (by decide)
        rw [rB_4, show 6 * 0 + k = k by omega] at b
        show mb (0 < cB σ (20 + 1) k 4) = _
        rw [show cB σ (20 + 1) k 4 = σ 115 k from b])]
      refine zr_lost hF hR en (by omega) (fun k hk => ?_)
      have := (hB k (by omega)).2.1.2.2.2.2.1
      rw [rB_4, show 6 * 0 + k = k by omega] at this
      omega
  by_cases c7 : x = 7
  · refine ⟨_, e_f c0 (e_f c1 (e_f c2 (e_f c3 (e_f c4 (e_f c5 (e_f c6 (e_t c7 (e_mob (zc_empty hF h20 h20n en (by omega) (fun k hk => ?_)) rfl)))))))), e_f c0 (e_f c1 (e_f c2 (e_f c3 (e_f c4 (e_f c5 (e_f c6 (e_t c7 ?_)))))))⟩
    · have := (hB k (by omega)).2.2.2.2.1
      show sml (cB σ 21 k 3)
      omega
    · rw [xSum_congr (g := fun k => mb (σ 114 k = 0)) (fun k hk => by
        have b := (hB k (by omega)).1 3 (by decide)
        rw [rB_3, show 6 * 0 + k = k by omega] at b
        show mb (cB σ (20 + 1) k 3 = 0) = _
        rw [show cB σ (20 + 1) k 3 = σ 114 k from b])]
      refine zr_empty hF hR en (by omega) (fun k hk => ?_)
      have := (hB k (by omega)).2.1.2.2.2.1
      rw [rB_3, show 6 * 0 + k = k by omega] at this
      omega
  by_cases c8 : x = 8
  · exact ⟨min 60 (σ 54 2), e_f c0 (e_f c1 (e_f c2 (e_f c3 (e_f c4 (e_f c5 (e_f c6 (e_f c7 (e_t c8 (e_mob et rfl))))))))), e_f c0 (e_f c1 (e_f c2 (e_f c3 (e_f c4 (e_f c5 (e_f c6 (e_f c7 (e_t c8 (e_t (by decide) (by rw [k2]))))))))))⟩
  by_cases c9 : x = 9
  · exact ⟨σ 54 4, e_f c0 (e_f c1 (e_f c2 (e_f c3 (e_f c4 (e_f c5 (e_f c6 (e_f c7 (e_f c8 (e_t c9 rfl))))))))), e_f c0 (e_f c1 (e_f c2 (e_f c3 (e_f c4 (e_f c5 (e_f c6 (e_f c7 (e_f c8 (e_t c9 (by rw [u4]))))))))))⟩
  by_cases c10 : x = 10
  · exact ⟨σ 0 12, e_f c0 (e_f c1 (e_f c2 (e_f c3 (e_f c4 (e_f c5 (e_f c6 (e_f c7 (e_f c8 (e_f c9 (e_t c10 rfl)))))))))), e_f c0 (e_f c1 (e_f c2 (e_f c3 (e_f c4 (e_f c5 (e_f c6 (e_f c7 (e_f c8 (e_f c9 (e_t c10 (by rw [sd])))))))))))⟩
  exact ⟨-1, e_f c0 (e_f c1 (e_f c2 (e_f c3 (e_f c4 (e_f c5 (e_f c6 (e_f c7 (e_f c8 (e_f c9 (e_f c10 rfl)))))))))), e_f c0 (e_f c1 (e_f c2 (e_f c3 (e_f c4 (e_f c5 (e_f c6 (e_f c7 (e_f c8 (e_f c9 (e_f c10 rfl))))))))))⟩
