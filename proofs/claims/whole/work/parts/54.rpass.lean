/-! LAYER 2: the reference's box, whole -/
theorem rB_f7 {τ τ' : mMem} {v k : Nat} (h : ∀ j, j ≠ 63 → j ≠ 64 → τ' 86 j = τ 86 j) (h94 : τ' 94 = τ 94) (h95 : τ' 95 = τ 95) (h96 : τ' 96 = τ 96) : rB τ' v k 5 = rB τ v k 5 ∧ rB τ' v k 6 = rB τ v k 6 ∧ rB τ' v k 7 = rB τ v k 7 := by
  unfold rB
  rw [h 57 (by decide) (by decide), h 58 (by decide) (by decide), h 59 (by decide) (by decide), h 60 (by decide) (by decide), h 61 (by decide) (by decide), h 13 (by decide) (by decide), h94, h95, h96]
  exact ⟨rfl, rfl, rfl⟩
theorem zr_does {F p v k n : Nat} {π τ : mMem} {lamp step : Int} (hv : v < 22) (hk : k < n) (hn : n ≤ 6) (hF : 2000 ≤ F) (hR : PlR π p τ) (hP : PlC π p) (h11 : π p 11 = (n : Int)) (hlamp : τ 111 v = lamp) (hstep : τ 110 v = step) (hl : 0 ≤ lamp ∧ lamp ≤ 9) (hst : 0 ≤ step ∧ step ≤ 1000) (h57 : sml (τ 86 57)) (h60 : sml (τ 86 60)) (hB : ∀ j, j < n → BRr (π p 9) (π p 10) τ v j) (hm : 0 ≤ τ 117 v ∧ τ 117 v ≤ 60) (hpw : 0 < τ 114 (6 * v + k)) :
    ∃ τ', g_X12_does F (v : Int) (k : Int) τ = some (0, τ') ∧ (∀ q, q < 112 → q ≠ 86 → τ' q = τ q) ∧ (∀ q, 120 < q → τ' q = τ q) ∧ (∀ j, j ≠ 63 → j ≠ 64 → τ' 86 j = τ 86 j) ∧ (∀ q, 112 ≤ q → q ≤ 116 → ∀ j, j ≠ 6 * v + k → τ' q j = τ q j) ∧ BEq (rB τ' v k) (xNew π p lamp step (rB τ v) (rB τ v k)) ∧ (0 ≤ τ' 112 (6 * v + k) ∧ τ' 112 (6 * v + k) ≤ 80) ∧
      τ' 86 63 = (if xWent π p lamp step (rB τ v) (rB τ v k) then mor (τ 86 63) (mshl 1 (k : Int)) else τ 86 63) ∧ τ' 86 64 = (if xBlk π p lamp step (rB τ v) (rB τ v k) then mor (τ 86 64) (mshl 1 (k : Int)) else τ 86 64) ∧ (¬ xWent π p lamp step (rB τ v) (rB τ v k) → τ' 117 = τ 117 ∧ τ' 118 = τ 118) ∧ (xWent π p lamp step (rB τ v) (rB τ v k) → KApp τ τ' v step (k : Int) (xC π p lamp step (rB τ v k)) (xR π p lamp step (rB τ v k))) := by
  obtain ⟨hcell, b0, b2, b3, b4, b5, b6, b7, b8⟩ := id (hB k hk)
  obtain ⟨p1, p2, p3, p4, p5, p6, p7⟩ := id hP
  have hgv := xGoV_v (π := π) (p := p) (lamp := lamp) (step := step) (B := rB τ v k) hP
  have hw1 := xWay_rng (B := rB τ v k) (z := xBy π p lamp step (rB τ v k)) b2
  obtain ⟨τ1, s1, s2, s3, s4, s5⟩ := zr_steers (F := F) (k := k) hv (by omega) hF hR hP hlamp hstep hl hst h57 (hB k hk)
  generalize hω : mup τ1 114 (6 * v + k) (τ 114 (6 * v + k) - 1) = ω
  have wq : ∀ q, q ≠ 113 → q ≠ 114 → q ≠ 115 → q ≠ 119 → q ≠ 120 → ω q = τ q := by
    intro q q1 q2 q3 q4 q5
    rw [← hω, mup_off q2, s2 q q1 q3 q4 q5]
  have w113 : ω 113 = mup1 (τ 113) (6 * v + k) (xWay (rB τ v k) (xBy π p lamp step (rB τ v k))) := by rw [← hω, mup_off (by decide), s3]
  have w115 : ω 115 = mup1 (τ 115) (6 * v + k) (xLost π p lamp (rB τ v k)) := by rw [← hω, mup_off (by decide), s4]
  have w114 : ω 114 = mup1 (τ 114) (6 * v + k) (τ 114 (6 * v + k) - 1) := by rw [← hω, mup_row, s2 114 (by decide) (by decide) (by decide) (by decide)]
  have w120 : ∀ j, j < 7 → ω 120 (j + 1) = xKn π p lamp step (rB τ v k) (mb (xBy π p lamp step (rB τ v k) ≠ 0)) j := by
    intro j hj
    rw [← hω, mup_off (by decide), s5 j hj]
  have wR : PlR π p ω := hR.same (fun q h1 h2 => wq q (by omega) (by omega) (by omega) (by omega) (by omega)) (by rw [wq 86 (by decide) (by decide) (by decide) (by decide) (by decide)])
  have told := zr_told (F := F) (a := 7) (w := 1) wR.1 (Or.inr rfl) wR.2.2.2.2.2.2 (fun c => by
    rcases p7 with q | ⟨q1, q2, q3, -⟩
    · exact absurd c (Int.not_lt.mpr q)
    · exact ⟨q1, by omega⟩)
  -- once what 'goes' says is known
  have head : ∃ ψ : mMem, (∀ q, q ≠ 119 → ψ q = ω q) ∧ g_X12_does F (v : Int) (k : Int) τ = (if xGoV π p lamp step (rB τ v k) ≠ 0 then g_X12_does_b52 F (v : Int) (k : Int) ((6 * v + k : Nat) : Int) ψ else some (0, ψ)) := by
    have pre : ∀ X, (mob (g_X12_isTold F 1 ω) (fun r5 σ6 => if mw r5 = 0 then (g_X12_does_b52 F (v : Int) (k : Int) ((6 * v + k : Nat) : Int) σ6) else (mob (g_X12_reckons F 1 σ6) (fun r7 σ8 => if ¬ mwl r7 = mwl 0 then (g_X12_does_b52 F (v : Int) (k : Int) ((6 * v + k : Nat) : Int) σ8) else (some (0, σ8)))))) = X → g_X12_does F (v : Int) (k : Int) τ = X := by
      intro X hX
      unfold g_X12_does
      refine e_le ((6 * v + k : Nat) : Int) (by omega) ?_
      refine e_t (mwR (by omega) (by decide)) ?_
      rw [mwN (i := 6 * v + k) (by omega)]
      rw [rB_3] at b3
      refine e_t (by rw [mw_id (z := τ 114 (6 * v + k)) (by omega) (by omega)]; omega) ?_
      refine e_mob s1 (e_t (mwR (by omega) (by decide)) (e_t (mwR (by omega) (by decide)) (e_mem ?_)))
      rw [s2 114 (by decide) (by decide) (by decide) (by decide), hω]
      exact hX
    by_cases c7 : π p 7 < π p 8
    · rw [mb_t c7] at told
      obtain ⟨ψ, r1, r2⟩ := zr_rv (F := F) (a := 7) (w := 1) (m := 7) (kn := xKn π p lamp step (rB τ v k) (mb (xBy π p lamp step (rB τ v k) ≠ 0))) hF wR.1 (Or.inr rfl) wR.2.2.2.2.2.2 p7 c7 (fun j hj => w120 j (by omega)) (fun j hj => xKn_v hP hl hst b4 b3 (by have := mb_rng (xBy π p lamp step (rB τ v k) ≠ 0); omega) j (by omega))
      have eg : xGoV π p lamp step (rB τ v k) = (sRun (π (p + 4)) (xKn π p lamp step (rB τ v k) (mb (xBy π p lamp step (rB τ v k) ≠ 0))) (π p (7 + 1) - π p 7).toNat (π p 7).toNat []).headD 0 := by
        unfold xGoV
        rw [if_pos c7]
      rw [← eg] at r1
      refine ⟨ψ, r2, ?_⟩
      refine pre _ (e_mob told (e_f (by decide) (e_mob r1 ?_)))
      by_cases g0 : xGoV π p lamp step (rB τ v k) = 0
      · exact (if_neg (by rw [g0]; exact fun q => q rfl)).trans (if_neg (fun q => q g0)).symm
      · exact (if_pos (by rw [mwl_id (by omega) (by omega), mwl_id (by omega) (by omega)]; exact g0)).trans (if_pos g0).symm
    · rw [mb_f c7] at told
      have eg : xGoV π p lamp step (rB τ v k) = 1 := by
        unfold xGoV
        rw [if_neg c7]
      refine ⟨ω, fun _ _ => rfl, ?_⟩
      rw [eg, if_pos (by decide)]
      exact pre _ (e_mob told (e_t (by decide) rfl))
  obtain ⟨ψ, hψ, hd⟩ := head
  have yq : ∀ q, q ≠ 113 → q ≠ 114 → q ≠ 115 → q ≠ 119 → q ≠ 120 → ψ q = τ q := by
    intro q q1 q2 q3 q4 q5
    rw [hψ q q4, wq q q1 q2 q3 q4 q5]
  have y113 : ψ 113 = mup1 (τ 113) (6 * v + k) (xWay (rB τ v k) (xBy π p lamp step (rB τ v k))) := by rw [hψ _ (by decide), w113]
  have y114 : ψ 114 = mup1 (τ 114) (6 * v + k) (τ 114 (6 * v + k) - 1) := by rw [hψ _ (by decide), w114]
  have y115 : ψ 115 = mup1 (τ 115) (6 * v + k) (xLost π p lamp (rB τ v k)) := by rw [hψ _ (by decide), w115]
  have y86 : ψ 86 = τ 86 := yq 86 (by decide) (by decide) (by decide) (by decide) (by decide)
  have y112 : ψ 112 = τ 112 := yq 112 (by decide) (by decide) (by decide) (by decide) (by decide)
  have y116 : ψ 116 = τ 116 := yq 116 (by decide) (by decide) (by decide) (by decide) (by decide)
  have y567 := rB_f7 (τ := τ) (τ' := ψ) (v := v) (k := k) (fun j _ _ => by rw [y86]) (yq 94 (by decide) (by decide) (by decide) (by decide) (by decide)) (yq 95 (by decide) (by decide) (by decide) (by decide) (by decide)) (yq 96 (by decide) (by decide) (by decide) (by decide) (by decide))
  have yA : ∀ j, j < n → rB ψ v j 0 = rB τ v j 0 ∧ rB ψ v j 1 = rB τ v j 1 := by
    intro j _
    rw [rB_0, rB_0, rB_1, rB_1, y112]
    exact ⟨rfl, rfl⟩
  have hwho : ∀ c r : Int, xWho (rB ψ v) c r n = xWho (rB τ v) c r n := fun c r => xWho_congr yA
  have pn : (π p 11).toNat = n := by omega
  have fld : ∀ ξ : mMem, (∀ q, q < 112 → q ≠ 86 → ξ q = τ q) → (∀ j, j ≠ 63 → j ≠ 64 → ξ 86 j = τ 86 j) → rB ξ v k 5 = rB τ v k 5 ∧ rB ξ v k 6 = rB τ v k 6 ∧ rB ξ v k 7 = rB τ v k 7 := fun ξ h1 h2 => rB_f7 h2 (h1 94 (by decide) (by decide)) (h1 95 (by decide) (by decide)) (h1 96 (by decide) (by decide))
  -- where the box doesn't go
  have stay : ∀ ξ : mMem, (∀ q, q ≠ 86 → ξ q = ψ q) → (∀ j, j ≠ 63 → j ≠ 64 → ξ 86 j = τ 86 j) → ¬ xWent π p lamp step (rB τ v) (rB τ v k) →
      (∀ q, q < 112 → q ≠ 86 → ξ q = τ q) ∧ (∀ q, 120 < q → ξ q = τ q) ∧ (∀ q, 112 ≤ q → q ≤ 116 → ∀ j, j ≠ 6 * v + k → ξ q j = τ q j) ∧ BEq (rB ξ v k) (xNew π p lamp step (rB τ v) (rB τ v k)) ∧ (0 ≤ ξ 112 (6 * v + k) ∧ ξ 112 (6 * v + k) ≤ 80) ∧ (ξ 117 = τ 117 ∧ ξ 118 = τ 118) := by
    intro ξ h1 h2 nW
    have x1 : ∀ q, q < 112 → q ≠ 86 → ξ q = τ q := fun q q1 q2 => by rw [h1 q q2, yq q (by omega) (by omega) (by omega) (by omega) (by omega)]
    refine ⟨x1, fun q q1 => by rw [h1 q (by omega), yq q (by omega) (by omega) (by omega) (by omega) (by omega)], ?_, ?_, ?_, ?_, ?_⟩
    · intro q q1 q2 j hj
      rw [h1 q (by omega)]
      rcases (by omega : q = 112 ∨ q = 113 ∨ q = 114 ∨ q = 115 ∨ q = 116) with rfl | rfl | rfl | rfl | rfl
      · rw [y112]
      · rw [y113, mup1_ne hj]
      · rw [y114, mup1_ne hj]
      · rw [y115, mup1_ne hj]
      · rw [y116]
    · intro f hf
      have f567 := fld ξ x1 h2
      unfold xNew
      rcases (by omega : f = 0 ∨ f = 1 ∨ f = 2 ∨ f = 3 ∨ f = 4 ∨ f = 5 ∨ f = 6 ∨ f = 7 ∨ f = 8) with rfl | rfl | rfl | rfl | rfl | rfl | rfl | rfl | rfl
      · rw [if_pos rfl, if_neg nW, rB_0, rB_0, h1 112 (by decide), y112]
      · rw [if_neg (by decide), if_pos rfl, if_neg nW, rB_1, rB_1, h1 112 (by decide), y112]
      · rw [if_neg (by decide), if_neg (by decide), if_pos rfl, if_neg (fun q => nW q.1), rB_2, h1 113 (by decide), y113, mup1_at rfl]
      · rw [if_neg (by decide), if_neg (by decide), if_neg (by decide), if_pos rfl, rB_3, rB_3, h1 114 (by decide), y114, mup1_at rfl]
      · rw [if_neg (by decide), if_neg (by decide), if_neg (by decide), if_neg (by decide), if_pos rfl, rB_4, h1 115 (by decide), y115, mup1_at rfl]
      · simp only [Nat.reduceEqDiff, if_false]; exact f567.1
      · simp only [Nat.reduceEqDiff, if_false]; exact f567.2.1
      · simp only [Nat.reduceEqDiff, if_false]; exact f567.2.2
      · rw [if_neg (by decide), if_neg (by decide), if_neg (by decide), if_neg (by decide), if_neg (by decide), if_pos rfl, if_neg nW, rB_8, rB_8, h1 116 (by decide), y116]
    · rw [h1 112 (by decide), y112]; exact hcell
    · rw [h1 117 (by decide), yq 117 (by decide) (by decide) (by decide) (by decide) (by decide)]
    · rw [h1 118 (by decide), yq 118 (by decide) (by decide) (by decide) (by decide) (by decide)]
  by_cases hg : xGoV π p lamp step (rB τ v k) = 0
  · have nW : ¬ xWent π p lamp step (rB τ v) (rB τ v k) := fun q => q.1 hg
    have nK : ¬ xBlk π p lamp step (rB τ v) (rB τ v k) := fun q => q.1 hg
    rw [if_neg (fun q => q hg)] at hd
    obtain ⟨a1, a2, a3, a4, a5, a6⟩ := stay ψ (fun _ _ => rfl) (fun j _ _ => by rw [y86]) nW
    exact ⟨ψ, hd, a1, a2, fun j _ _ => by rw [y86], a3, a4, a5, by rw [if_neg nW, y86], by rw [if_neg nK, y86], fun _ => a6, fun q => absurd q nW⟩
  · rw [if_pos hg] at hd
    have b52 := zr_b52 (F := F) (p := p) (v := v) (k := k) (n := n) (π := π) (ψ := ψ) (c := xC π p lamp step (rB τ v k)) (r := xR π p lamp step (rB τ v k)) (w := xWay (rB τ v k) (xBy π p lamp step (rB τ v k))) (g := rB τ v k 8) hv hk hn hF
      (hR.same (fun q h1 h2 => yq q (by omega) (by omega) (by omega) (by omega) (by omega)) (by rw [y86])) p1 p2 h11 (fun j hj => by rw [y112]; exact (hB j hj).1) (by rw [y113, mup1_at rfl]) hw1 (by rw [y116, rB_8]) b8 (by rw [y86]; exact h60) (by rw [y567.2.2]; exact b7) (by rw [yq 117 (by decide) (by decide) (by decide) (by decide) (by decide)]; exact hm)
      (by rw [y112]; rfl) (by rw [y112]; rfl)
    rw [hwho, y567.2.2] at b52
    by_cases hfr : xFree π p (rB τ v) (xC π p lamp step (rB τ v k)) (xR π p lamp step (rB τ v k))
    · have hW : xWent π p lamp step (rB τ v) (rB τ v k) := ⟨hg, hfr⟩
      have nK : ¬ xBlk π p lamp step (rB τ v) (rB τ v k) := fun q => q.2 hfr
      have hfr2 := hfr
      unfold xFree at hfr2
      rw [pn] at hfr2
      obtain ⟨τ', e1, e2, e3, e4, e5, e6, e7⟩ := b52.2 hfr2
      have hon := hfr2.1
      unfold sOn at hon
      have x1 : ∀ q, q < 112 → q ≠ 86 → τ' q = τ q := fun q q1 q2 => by rw [e2 q q2 (by omega) (by omega) (by omega) (by omega) (by omega), yq q (by omega) (by omega) (by omega) (by omega) (by omega)]
      have x2 : ∀ j, j ≠ 63 → j ≠ 64 → τ' 86 j = τ 86 j := fun j j1 _ => by rw [e3, mup1_ne j1, y86]
      have e114 : τ' 114 = ψ 114 := e2 114 (by decide) (by decide) (by decide) (by decide) (by decide) (by decide)
      have e115 : τ' 115 = ψ 115 := e2 115 (by decide) (by decide) (by decide) (by decide) (by decide) (by decide)
      have f567 := fld τ' x1 x2
      refine ⟨τ', hd.trans e1, x1, fun q q1 => by rw [e2 q (by omega) (by omega) (by omega) (by omega) (by omega) (by omega), yq q (by omega) (by omega) (by omega) (by omega) (by omega)], x2, ?_, ?_, ?_, ?_, ?_, fun q => absurd hW q, fun _ => ?_⟩
      · intro q q1 q2 j hj
        rcases (by omega : q = 112 ∨ q = 113 ∨ q = 114 ∨ q = 115 ∨ q = 116) with rfl | rfl | rfl | rfl | rfl
        · rw [e4, mup1_ne hj, y112]
        · rw [e6, mup1_ne hj, y113, mup1_ne hj]
        · rw [e114, y114, mup1_ne hj]
        · rw [e115, y115, mup1_ne hj]
        · rw [e5, mup1_ne hj, y116]
      · intro f hf
        unfold xNew
        rcases (by omega : f = 0 ∨ f = 1 ∨ f = 2 ∨ f = 3 ∨ f = 4 ∨ f = 5 ∨ f = 6 ∨ f = 7 ∨ f = 8) with rfl | rfl | rfl | rfl | rfl | rfl | rfl | rfl | rfl
        · rw [if_pos rfl, if_pos hW, rB_0, e4, mup1_at rfl]; omega
        · rw [if_neg (by decide), if_pos rfl, if_pos hW, rB_1, e4, mup1_at rfl]; omega
        · rw [if_neg (by decide), if_neg (by decide), if_pos rfl, rB_2, e6, mup1_at rfl]
          by_cases cc : 0 < rB τ v k 7 ∧ (rB τ v k 8 + 1) % 2520 % rB τ v k 7 = 0
          · rw [if_pos cc, if_pos ⟨hW, cc⟩]
          · rw [if_neg cc, if_neg (fun q => cc q.2)]
        · rw [if_neg (by decide), if_neg (by decide), if_neg (by decide), if_pos rfl, rB_3, rB_3, e114, y114, mup1_at rfl]
        · rw [if_neg (by decide), if_neg (by decide), if_neg (by decide), if_neg (by decide), if_pos rfl, rB_4, e115, y115, mup1_at rfl]
        · simp only [Nat.reduceEqDiff, if_false]; exact f567.1
        · simp only [Nat.reduceEqDiff, if_false]; exact f567.2.1
        · simp only [Nat.reduceEqDiff, if_false]; exact f567.2.2
        · rw [if_neg (by decide), if_neg (by decide), if_neg (by decide), if_neg (by decide), if_neg (by decide), if_pos rfl, if_pos hW, rB_8, e5, mup1_at rfl]
      · rw [e4, mup1_at rfl]; omega
      · rw [if_pos hW, e3, mup1_at rfl, y86]
      · rw [if_neg nK, e3, mup1_ne (by decide), y86]
      · have e8 := e7
        rw [yq 110 (by decide) (by decide) (by decide) (by decide) (by decide), hstep] at e8
        exact e8.congr (yq 117 (by decide) (by decide) (by decide) (by decide) (by decide)).symm (yq 118 (by decide) (by decide) (by decide) (by decide) (by decide)).symm rfl rfl
    · have nW : ¬ xWent π p lamp step (rB τ v) (rB τ v k) := fun q => hfr q.2
      have hK : xBlk π p lamp step (rB τ v) (rB τ v k) := ⟨hg, hfr⟩
      have hfr2 := hfr
      unfold xFree at hfr2
      rw [pn] at hfr2
      have e1 := b52.1 hfr2
      obtain ⟨a1, a2, a3, a4, a5, a6⟩ := stay (mup ψ 86 64 (mor (ψ 86 64) (mshl 1 (k : Int)))) (fun q hq => mup_off hq) (fun j _ j2 => by rw [mup_row, mup1_ne j2, y86]) nW
      exact ⟨_, hd.trans e1, a1, a2, fun j _ j2 => by rw [mup_row, mup1_ne j2, y86], a3, a4, a5, by rw [if_neg nW, mup_row, mup1_ne (by decide), y86], by rw [if_pos hK, mup_row, mup1_at rfl, y86], fun _ => a6, fun q => absurd q nW⟩
