/-! LAYER 2: the reference moves a box -/
theorem KApp.congr {τ τ' υ υ' : mMem} {v : Nat} {a b c d : Int} (h : KApp τ τ' v a b c d) (e7 : υ 117 = τ 117) (e8 : υ 118 = τ 118) (f7 : υ' 117 = τ' 117) (f8 : υ' 118 = τ' 118) : KApp υ υ' v a b c d := by
  unfold KApp at *
  rw [e7, e8, f7, f8]
  exact h
theorem zr_b52 {F p v k n : Nat} {π ψ : mMem} {c r w g : Int} (hv : v < 22) (hk : k < n) (hn : n ≤ 6) (hF : 2000 ≤ F) (hR : PlR π p ψ) (h9 : 0 ≤ π p 9 ∧ π p 9 ≤ 9) (h10 : 0 ≤ π p 10 ∧ π p 10 ≤ 9) (h11 : π p 11 = (n : Int)) (hA : ∀ j, j < n → 0 ≤ ψ 112 (6 * v + j) ∧ ψ 112 (6 * v + j) ≤ 80) (hw : ψ 113 (6 * v + k) = w) (hw2 : 0 ≤ w ∧ w ≤ 3) (hg : ψ 116 (6 * v + k) = g) (hg2 : 0 ≤ g ∧ g ≤ 2519) (h60 : sml (ψ 86 60)) (hbi : 0 ≤ rB ψ v k 7 ∧ rB ψ v k 7 ≤ 9) (hm : 0 ≤ ψ 117 v ∧ ψ 117 v ≤ 60) (hc : c = ψ 112 (6 * v + k) % 9 + sdc w) (hr : r = ψ 112 (6 * v + k) / 9 + sdr w) :
    (¬ (sOn (π p 9) (π p 10) c r ∧ xWho (rB ψ v) c r n = -1) → g_X12_does_b52 F (v : Int) (k : Int) ((6 * v + k : Nat) : Int) ψ = some (0, mup ψ 86 64 (mor (ψ 86 64) (mshl 1 (k : Int))))) ∧
    ((sOn (π p 9) (π p 10) c r ∧ xWho (rB ψ v) c r n = -1) → ∃ τ', g_X12_does_b52 F (v : Int) (k : Int) ((6 * v + k : Nat) : Int) ψ = some (0, τ') ∧ (∀ q, q ≠ 86 → q ≠ 112 → q ≠ 113 → q ≠ 116 → q ≠ 117 → q ≠ 118 → τ' q = ψ q) ∧ τ' 86 = mup1 (ψ 86) 63 (mor (ψ 86 63) (mshl 1 (k : Int))) ∧ τ' 112 = mup1 (ψ 112) (6 * v + k) (9 * r + c) ∧ τ' 116 = mup1 (ψ 116) (6 * v + k) ((g + 1) % 2520) ∧
      τ' 113 = mup1 (ψ 113) (6 * v + k) (if 0 < rB ψ v k 7 ∧ (g + 1) % 2520 % rB ψ v k 7 = 0 then (w + 1) % 4 else w) ∧ KApp ψ τ' v (ψ 110 v) (k : Int) c r) := by
  have hcell := hA k hk
  have hb := hR.1
  have off : g_X12_off F (ψ 112 (6 * v + k)) (ψ 113 (6 * v + k)) 1 0 ψ = some (if sOn (π p 9) (π p 10) c r then 9 * r + c else -1, ψ) := by
    refine zr_off hcell (by rw [hw]; exact hw2) (by decide) (by decide) hR h9 h10 ?_ ?_
    · rw [hc, hw]; omega
    · rw [hr, hw]; omega
  have head : ∀ X, ((fun (r109 : Int) (σ110 : mMem) => if mw r109 = mw (-1) then (g_X12_does_b89 F (k : Int) σ110) else (mob (g_X12_who F (v : Int) r109 σ110) (fun r111 σ112 => if mw r111 = mw (-1) then (if 0 ≤ mw ((6 * v + k : Nat) : Int) ∧ mw ((6 * v + k : Nat) : Int) < (132 : Int) then mlm (mup σ112 112 (mw ((6 * v + k : Nat) : Int)).toNat r109) (fun σ113 => if 0 ≤ mw ((6 * v + k : Nat) : Int) ∧ mw ((6 * v + k : Nat) : Int) < (132 : Int) then if mw 2520 = 0 then none else (if 0 ≤ mw ((6 * v + k : Nat) : Int) ∧ mw ((6 * v + k : Nat) : Int) < (132 : Int) then mlm (mup σ113 116 (mw ((6 * v + k : Nat) : Int)).toNat ((mw ((σ113 116 (mw ((6 * v + k : Nat) : Int)).toNat) + 1)).tmod (mw 2520))) (fun σ114 => mlm (mup σ114 86 63 (mor (σ114 86 63) (mshl 1 (k : Int)))) (fun σ115 => mob (g_X12_writesDown F (v : Int) (k : Int) σ115) (fun r116 σ117 => mob (g_X12_bias F (k : Int) σ117) (fun r118 σ119 => if mw r118 ≤ 0 then (g_X12_does_b185 F σ119) else (if 0 ≤ mw ((6 * v + k : Nat) : Int) ∧ mw ((6 * v + k : Nat) : Int) < (132 : Int) then mob (g_X12_bias F (k : Int) σ119) (fun r120 σ121 => if mw r120 = 0 then none else (if ¬ mw ((mw (σ119 116 (mw ((6 * v + k : Nat) : Int)).toNat)).tmod (mw r120)) = 0 then (g_X12_does_b185 F σ121) else (if 0 ≤ mw ((6 * v + k : Nat) : Int) ∧ mw ((6 * v + k : Nat) : Int) < (132 : Int) then if mw 4 = 0 then none else (if 0 ≤ mw ((6 * v + k : Nat) : Int) ∧ mw ((6 * v + k : Nat) : Int) < (132 : Int) then mlm (mup σ121 113 (mw ((6 * v + k : Nat) : Int)).toNat ((mw ((σ121 113 (mw ((6 * v + k : Nat) : Int)).toNat) + 1)).tmod (mw 4))) (fun σ122 => g_X12_does_b185 F σ122) else none) else none))) else none))))) else none) else none) else none) else (g_X12_does_b89 F (k : Int) σ112)))) (if sOn (π p 9) (π p 10) c r then 9 * r + c else -1) ψ = X) → g_X12_does_b52 F (v : Int) (k : Int) ((6 * v + k : Nat) : Int) ψ = X := by
    intro X hX
    unfold g_X12_does_b52
    refine e_t (mwR (by omega) (by decide)) (e_t (mwR (by omega) (by decide)) ?_)
    rw [mwN (i := 6 * v + k) (by omega)] at *
    exact e_mob off hX
  constructor
  · intro hnf
    refine head _ ?_
    dsimp only
    by_cases hon : sOn (π p 9) (π p 10) c r
    · have hcr : (0 ≤ c ∧ c ≤ 8) ∧ (0 ≤ r ∧ r ≤ 8) := by unfold sOn at hon; omega
      have hwr := xWho_rng (A := rB ψ v) (c := c) (r := r) n
      rw [if_pos hon]
      refine e_f (by rw [mw_id (by omega) (by omega), mw_id (by omega) (by omega)]; omega) ?_
      refine e_mob (zr_who hv (by omega) hR h11 hn hA hcr.1 hcr.2) ?_
      refine e_f (by rw [mw_id (by omega) (by omega), mw_id (by omega) (by omega)]; exact fun q => hnf ⟨hon, q⟩) ?_
      rfl
    · rw [if_neg hon]
      exact e_t rfl rfl
  · intro hfr
    have hon := hfr.1
    have hcr : (0 ≤ c ∧ c ≤ 8) ∧ (0 ≤ r ∧ r ≤ 8) := by unfold sOn at hon; omega
    generalize hω : mup (mup (mup ψ 112 (6 * v + k) (9 * r + c)) 116 (6 * v + k) ((g + 1) % 2520)) 86 63 (mor (ψ 86 63) (mshl 1 (k : Int))) = ω
    have w112 : ω 112 = mup1 (ψ 112) (6 * v + k) (9 * r + c) := by rw [← hω, mup_off (by decide), mup_off (by decide), mup_row]
    have w116 : ω 116 = mup1 (ψ 116) (6 * v + k) ((g + 1) % 2520) := by rw [← hω, mup_off (by decide), mup_row, mup_off (by decide)]
    have w86 : ω 86 = mup1 (ψ 86) 63 (mor (ψ 86 63) (mshl 1 (k : Int))) := by rw [← hω, mup_row, mup_off (by decide), mup_off (by decide)]
    have wq : ∀ q, q ≠ 86 → q ≠ 112 → q ≠ 116 → ω q = ψ q := by
      intro q q1 q2 q3
      rw [← hω, mup_off q1, mup_off q3, mup_off q2]
    obtain ⟨τ1, t1, t2, t3⟩ := zr_writes (F := F) (v := v) (k := k) (τ := ω) hv (by omega) hF (by rw [wq 117 (by decide) (by decide) (by decide)]; exact hm) (by rw [w112, mup1_at rfl]; omega)
    have t4 : KApp ψ τ1 v (ψ 110 v) (k : Int) c r := by
      rw [w112, mup1_at rfl, show (9 * r + c) % 9 = c by omega, show (9 * r + c) / 9 = r by omega, wq 110 (by decide) (by decide) (by decide)] at t3
      exact t3.congr (wq 117 (by decide) (by decide) (by decide)).symm (wq 118 (by decide) (by decide) (by decide)).symm rfl rfl
    have t86 : ∀ j, j ≠ 63 → τ1 86 j = ψ 86 j := by
      intro j hj
      rw [t2 86 (by decide) (by decide), w86, mup1_ne hj]
    have bi : rB τ1 v k 7 = rB ψ v k 7 := by
      unfold rB
      rw [t86 60 (by decide), t86 61 (by decide), t86 13 (by decide), t2 96 (by decide) (by decide), wq 96 (by decide) (by decide) (by decide)]
      rfl
    have e116 : τ1 116 (6 * v + k) = (g + 1) % 2520 := by rw [t2 116 (by decide) (by decide), w116, mup1_at rfl]
    have e113 : τ1 113 = ψ 113 := by rw [t2 113 (by decide) (by decide), wq 113 (by decide) (by decide) (by decide)]
    have bb : g_X12_bias F (k : Int) τ1 = some (rB ψ v k 7, τ1) := by
      rw [← bi]
      exact zr_bias (by omega) (by rw [t86 13 (by decide)]; exact hb) (by rw [t86 60 (by decide)]; exact h60)
    have pre : ∀ X, (if mw (rB ψ v k 7) ≤ 0 then (g_X12_does_b185 F τ1) else (if 0 ≤ mw ((6 * v + k : Nat) : Int) ∧ mw ((6 * v + k : Nat) : Int) < (132 : Int) then mob (g_X12_bias F (k : Int) τ1) (fun r120 σ121 => if mw r120 = 0 then none else (if ¬ mw ((mw (τ1 116 (mw ((6 * v + k : Nat) : Int)).toNat)).tmod (mw r120)) = 0 then (g_X12_does_b185 F σ121) else (if 0 ≤ mw ((6 * v + k : Nat) : Int) ∧ mw ((6 * v + k : Nat) : Int) < (132 : Int) then if mw 4 = 0 then none else (if 0 ≤ mw ((6 * v + k : Nat) : Int) ∧ mw ((6 * v + k : Nat) : Int) < (132 : Int) then mlm (mup σ121 113 (mw ((6 * v + k : Nat) : Int)).toNat ((mw ((σ121 113 (mw ((6 * v + k : Nat) : Int)).toNat) + 1)).tmod (mw 4))) (fun σ122 => g_X12_does_b185 F σ122) else none) else none))) else none)) = X → g_X12_does_b52 F (v : Int) (k : Int) ((6 * v + k : Nat) : Int) ψ = X := by
      intro X hX
      refine head _ ?_
      dsimp only
      rw [if_pos hon]
      refine e_f (by rw [mw_id (by omega) (by omega), mw_id (by omega) (by omega)]; omega) ?_
      refine e_mob (zr_who hv (by omega) hR h11 hn hA hcr.1 hcr.2) ?_
      refine e_t (by rw [hfr.2]) ?_
      refine e_t (mwR (by omega) (by decide)) (e_mem (e_t (mwR (by omega) (by decide)) (e_f (by decide) (e_t (mwR (by omega) (by decide)) (e_mem (e_mem ?_))))))
      rw [mwN (i := 6 * v + k) (by omega)] at *
      rw [mup_off (show (86 : Nat) ≠ 116 by decide), mup_off (show (86 : Nat) ≠ 112 by decide), mup_off (show (116 : Nat) ≠ 112 by decide), hg, show (mw (g + 1)).tmod (mw 2520) = (g + 1) % 2520 by simp (disch := omega) only [mw_id, mwl_id, mtmod, mtdiv], hω]
      exact e_mob t1 (e_mob bb hX)
    have c113 : ∀ x : Int, x = w → ψ 113 = mup1 (ψ 113) (6 * v + k) x := by
      intro x hx
      funext j
      unfold mup1
      split
      · rename_i e
        rw [e, hw, hx]
      · rfl
    by_cases c7 : 0 < rB ψ v k 7
    · by_cases c8 : (g + 1) % 2520 % rB ψ v k 7 = 0
      · rw [if_pos ⟨c7, c8⟩]
        refine ⟨mup τ1 113 (6 * v + k) ((w + 1) % 4), ?_, ?_, ?_, ?_, ?_, ?_, ?_⟩
        · refine pre _ ?_
          refine e_f (by rw [mw_id (by omega) (by omega)]; omega) (e_t (mwR (by omega) (by decide)) (e_mob bb ?_))
          rw [mwN (i := 6 * v + k) (by omega), e116]
          refine e_f (by rw [mw_id (by omega) (by omega)]; omega) ?_
          refine e_f (by rw [mtm (by omega) (by omega)]; exact fun q => q c8) ?_
          refine e_t (mwR (by omega) (by decide)) (e_f (by decide) (e_t (mwR (by omega) (by decide)) (e_mem ?_)))
          rw [e113, hw, show (mw (w + 1)).tmod (mw 4) = (w + 1) % 4 by simp (disch := omega) only [mw_id, mwl_id, mtmod, mtdiv]]
          rfl
        · intro q q1 q2 q3 q4 q5 q6
          rw [mup_off q3, t2 q q5 q6, wq q q1 q2 q4]
        · rw [mup_off (by decide), t2 86 (by decide) (by decide), w86]
        · rw [mup_off (by decide), t2 112 (by decide) (by decide), w112]
        · rw [mup_off (by decide), t2 116 (by decide) (by decide), w116]
        · rw [mup_row, e113]
        · exact t4.congr rfl rfl (mup_off (by decide)) (mup_off (by decide))
      · rw [if_neg (fun q => c8 q.2)]
        refine ⟨τ1, ?_, ?_, ?_, ?_, ?_, ?_, t4⟩
        · refine pre _ ?_
          refine e_f (by rw [mw_id (by omega) (by omega)]; omega) (e_t (mwR (by omega) (by decide)) (e_mob bb ?_))
          rw [mwN (i := 6 * v + k) (by omega), e116]
          refine e_f (by rw [mw_id (by omega) (by omega)]; omega) ?_
          exact e_t (by rw [mtm (by omega) (by omega)]; exact c8) rfl
        · intro q q1 q2 q3 q4 q5 q6
          rw [t2 q q5 q6, wq q q1 q2 q4]
        · rw [t2 86 (by decide) (by decide), w86]
        · rw [t2 112 (by decide) (by decide), w112]
        · rw [t2 116 (by decide) (by decide), w116]
        · rw [e113]; exact c113 _ rfl
    · rw [if_neg (fun q => c7 q.1)]
      refine ⟨τ1, ?_, ?_, ?_, ?_, ?_, ?_, t4⟩
      · refine pre _ ?_
        exact e_t (by rw [mw_id (by omega) (by omega)]; omega) rfl
      · intro q q1 q2 q3 q4 q5 q6
        rw [t2 q q5 q6, wq q q1 q2 q4]
      · rw [t2 86 (by decide) (by decide), w86]
      · rw [t2 112 (by decide) (by decide), w112]
      · rw [t2 116 (by decide) (by decide), w116]
      · rw [e113]; exact c113 _ rfl
