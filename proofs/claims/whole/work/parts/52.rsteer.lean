/-! LAYER 2: the reference steers -/
theorem mwN {i : Nat} (h : i < 1000000) : (mw (i : Int)).toNat = i := by rw [mw_id (by omega) (by omega)]; omega
theorem mwR {i : Nat} {z : Int} (h : (i : Int) < z) (h2 : z ≤ 1000000) : 0 ≤ mw (i : Int) ∧ mw (i : Int) < z := by rw [mw_id (by omega) (by omega)]; omega
theorem PlR.same {π τ τ' : mMem} {p : Nat} (h : ∀ q, 88 ≤ q → q ≤ 101 → τ' q = τ q) (h13 : τ' 86 13 = τ 86 13) (hR : PlR π p τ) : PlR π p τ' := by
  unfold PlR FmR at *
  rw [h13, h 88 (by omega) (by omega), h 89 (by omega) (by omega), h 90 (by omega) (by omega), h 91 (by omega) (by omega), h 98 (by omega) (by omega), h 99 (by omega) (by omega), h 100 (by omega) (by omega), h 101 (by omega) (by omega)]
  exact hR
theorem rB_c {τ τ' : mMem} (h : ∀ q, 94 ≤ q → q ≤ 116 → τ' q = τ q) (h86 : ∀ j, j ≠ 63 → j ≠ 64 → τ' 86 j = τ 86 j) (v k : Nat) : rB τ' v k = rB τ v k := by
  funext f
  unfold rB
  rw [h86 57 (by decide) (by decide), h86 58 (by decide) (by decide), h86 59 (by decide) (by decide), h86 60 (by decide) (by decide), h86 61 (by decide) (by decide), h86 13 (by decide) (by decide), h 94 (by omega) (by omega), h 95 (by omega) (by omega), h 96 (by omega) (by omega), h 112 (by omega) (by omega), h 113 (by omega) (by omega), h 114 (by omega) (by omega), h 115 (by omega) (by omega), h 116 (by omega) (by omega)]
theorem zr_told {F p a w : Nat} {π τ : mMem} (hb : τ 86 13 = 0 ∨ τ 86 13 = 1) (hw : w = 0 ∨ w = 1) (h : FmR π p τ a w) (hc : π p a < π p (a + 1) → 0 ≤ π p a ∧ π p a ≤ 1600) : g_X12_isTold F (w : Int) τ = some (mb (π p a < π p (a + 1)), τ) := by
  unfold g_X12_isTold g_X12_isTold_b22
  rw [mw_id (z := 2 * τ 86 13 + (w : Int)) (by omega) (by omega), show (2 * τ 86 13 + (w : Int)).toNat = 2 * (τ 86 13).toNat + w by omega]
  refine e_t (by omega) ?_
  rcases h with ⟨h1, h2⟩ | ⟨h1, h2, h3, h4⟩
  · rw [h2, mb_f (by omega)]
    exact e_t rfl (e_t (by decide) rfl)
  · rw [h2, mb_t h1]
    have := hc h1
    refine e_f (by rw [mw_id (by omega) (by omega), mw_id (by omega) (by omega)]; omega) (e_t (by decide) rfl)
theorem zr_rv {F p a w : Nat} {π τ : mMem} {m : Int} {kn : Nat → Int} (hF : 2000 ≤ F) (hb : τ 86 13 = 0 ∨ τ 86 13 = 1) (hw : w = 0 ∨ w = 1) (h : FmR π p τ a w) (hfm : FmC (π (p + 4)) (π p a) (π p (a + 1)) m) (hab : π p a < π p (a + 1)) (hk : ∀ j : Nat, (j : Int) < m → τ 120 (j + 1) = kn j) (hkv : ∀ j : Nat, (j : Int) < m → sV (kn j)) :
    ∃ τ', g_X12_reckons F (w : Int) τ = some ((sRun (π (p + 4)) kn (π p (a + 1) - π p a).toNat (π p a).toNat []).headD 0, τ') ∧ ∀ q, q ≠ 119 → τ' q = τ q := by
  rcases hfm with q | ⟨q1, q2, q3, ⟨c, q4⟩, q5⟩
  · omega
  rcases h with ⟨h1, h2⟩ | ⟨h1, h2, h3, h4⟩
  · omega
  have ei : (2 * τ 86 13 + (w : Int)).toNat = 2 * (τ 86 13).toNat + w := by omega
  have ej : ∀ j : Nat, (1600 * τ 86 13 + (j : Int)).toNat = 1600 * (τ 86 13).toNat + j := by intro j; omega
  obtain ⟨σ', e⟩ := z_reckons (F := F) (n := (π p (a + 1) - π p a).toNat) (i := (π p a).toNat) (w := (w : Int)) (m := m) (σ := τ) (code := π (p + 4)) (kn := kn) (b := c) hF (by omega) hb (by rw [ei, h2]; omega) (by rw [ei, h3]; omega) (by omega) q4 (fun j j1 j2 => by rw [ej]; exact h4 j (by omega) (by omega)) q5 hk hkv
  refine ⟨σ', e, fun q hq => ?_⟩
  funext j
  exact f_X12_reckons e q j (by unfold T_X12_reckons; omega)
theorem zs_244 {F i : Nat} {τ : mMem} {t1 t2 : Int} (hi : i < 132) (h1 : 0 ≤ t1 ∧ t1 ≤ 3) (h2 : 0 ≤ t2 ∧ t2 ≤ 3) : g_X12_steers_b244 F (i : Int) t1 t2 τ = some (0, mup τ 113 i ((t1 + t2) % 4)) := by
  unfold g_X12_steers_b244
  refine e_f (by decide) (e_t (mwR (by omega) (by decide)) (e_mem ?_))
  rw [mwN (by omega), show (mw (t1 + t2)).tmod (mw 4) = (t1 + t2) % 4 by simp (disch := omega) only [mw_id, mwl_id, mtmod, mtdiv]]
theorem zs_196 {F i : Nat} {τ : mMem} {B : Nat → Int} {z t : Int} (hi : i < 132) (hz : sV z) (hB : 0 ≤ B 2 ∧ B 2 ≤ 3) (h2 : τ 113 i = B 2) : g_X12_steers_b196 F (i : Int) z 6 t τ = some (0, mup (mup (mup τ 120 6 t) 120 7 (τ 114 i)) 113 i (xWay B z)) := by
  unfold g_X12_steers_b196
  refine e_t (by decide) (e_mem (e_t (mwR (by omega) (by decide)) (e_t (by decide) (e_mem (e_t (mwR (by omega) (by decide)) ?_)))))
  rw [mwN (by omega), show (mw 6).toNat = 6 by decide, show (mw 7).toNat = 7 by decide, mup_off (show (114 : Nat) ≠ 120 by decide), mup_off (show (113 : Nat) ≠ 120 by decide), mup_off (show (113 : Nat) ≠ 120 by decide), h2, mwl_id (z := z) (by omega) (by omega), mwl_id (z := 0) (by omega) (by omega)]
  unfold xWay
  by_cases c1 : 0 < z
  · rw [if_pos c1]
    refine e_f (by omega) (zs_244 hi hB (by decide))
  · rw [if_neg c1]
    by_cases c2 : z < 0
    · rw [if_pos c2]
      exact e_t (by omega) (e_f (by omega) (zs_244 hi hB (by decide)))
    · rw [if_neg c2]
      refine e_t (by omega) (e_t (by omega) ((zs_244 hi hB (by decide)).trans ?_))
      rw [show (B 2 + 0) % 4 = B 2 by omega]
theorem zs_176 {F i : Nat} {τ : mMem} {B : Nat → Int} {z : Int} (hi : i < 132) (hz : sV z) (hB : 0 ≤ B 2 ∧ B 2 ≤ 3) (h2 : τ 113 i = B 2) : g_X12_steers_b176 F (i : Int) z τ = some (0, mup (mup (mup τ 120 6 (mb (z ≠ 0))) 120 7 (τ 114 i)) 113 i (xWay B z)) := by
  unfold g_X12_steers_b176
  by_cases c : z = 0
  · rw [mb_f (fun q => q c)]
    exact e_f (by rw [c]; exact fun q => q rfl) (zs_196 hi hz hB h2)
  · rw [mb_t c]
    exact e_t (by rw [mwl_id (by omega) (by omega), mwl_id (by omega) (by omega)]; exact c) (zs_196 hi hz hB h2)
theorem zr_steers {F p v k : Nat} {π τ : mMem} {lamp step : Int} (hv : v < 22) (hk : k < 6) (hF : 2000 ≤ F) (hR : PlR π p τ) (hP : PlC π p) (hlamp : τ 111 v = lamp) (hstep : τ 110 v = step) (hl : 0 ≤ lamp ∧ lamp ≤ 9) (hst : 0 ≤ step ∧ step ≤ 1000) (h57 : sml (τ 86 57)) (hB : BRr (π p 9) (π p 10) τ v k) :
    ∃ τ', g_X12_steers F (v : Int) (k : Int) τ = some (0, τ') ∧ (∀ q, q ≠ 113 → q ≠ 115 → q ≠ 119 → q ≠ 120 → τ' q = τ q) ∧ τ' 113 = mup1 (τ 113) (6 * v + k) (xWay (rB τ v k) (xBy π p lamp step (rB τ v k))) ∧ τ' 115 = mup1 (τ 115) (6 * v + k) (xLost π p lamp (rB τ v k)) ∧
      ∀ j, j < 7 → τ' 120 (j + 1) = xKn π p lamp step (rB τ v k) (mb (xBy π p lamp step (rB τ v k) ≠ 0)) j := by
  obtain ⟨hcell, b0, b2, b3, b4, b5, b6, b7, b8⟩ := id hB
  obtain ⟨p1, p2, p3, p4, p5, p6, p7⟩ := id hP
  have hb := hR.1
  have hby := xBy_v (π := π) (p := p) (lamp := lamp) (step := step) (B := rB τ v k) hP hl
  have eL := xEye_rng (B := rB τ v k) (side := -1) hP hl
  have eR := xEye_rng (B := rB τ v k) (side := 1) hP hl
  have eM := xEye_rng (B := rB τ v k) (side := 0) hP hl
  have hlo := xLost_rng (π := π) (p := p) (lamp := lamp) (B := rB τ v k) b4
  have eye : ∀ υ : mMem, (∀ q, q ≠ 120 → υ q = τ q) → ∀ which side : Int, ((which = 0 ∧ side = -1) ∨ (which = 1 ∧ side = 1) ∨ (which = 2 ∧ side = 0)) → g_X12_eye F (v : Int) (k : Int) which υ = some (xEye π p lamp (rB τ v k) side, υ) := by
    intro υ hυ which side hw
    have er : rB υ v k = rB τ v k := rB_c (fun q _ h2 => hυ q (by omega)) (fun j _ _ => by rw [hυ 86 (by decide)]) v k
    rw [← er]
    refine zr_eye hv hk (hR.same (fun q _ h2 => hυ q (by omega)) (by rw [hυ 86 (by decide)])) p1 p2 p4 (by rw [hυ 111 (by decide)]; exact hlamp) hl (by rw [hυ 86 (by decide)]; exact h57) ?_ hw
    unfold BRr
    rw [er, hυ 112 (by decide)]
    exact hB
  -- the end of it, from where the time out of the line is known
  have fin : ∀ υ : mMem, (∀ q, q ≠ 120 → υ q = τ q) → υ 120 1 = xEye π p lamp (rB τ v k) (-1) → υ 120 2 = xEye π p lamp (rB τ v k) 1 → υ 120 3 = xEye π p lamp (rB τ v k) 0 →
      ∃ τ', g_X12_steers_b121 F (v : Int) ((6 * v + k : Nat) : Int) ((6 * v + k : Nat) : Int) (xLost π p lamp (rB τ v k)) υ = some (0, τ') ∧ (∀ q, q ≠ 113 → q ≠ 115 → q ≠ 119 → q ≠ 120 → τ' q = τ q) ∧ τ' 113 = mup1 (τ 113) (6 * v + k) (xWay (rB τ v k) (xBy π p lamp step (rB τ v k))) ∧ τ' 115 = mup1 (τ 115) (6 * v + k) (xLost π p lamp (rB τ v k)) ∧
      ∀ j, j < 7 → τ' 120 (j + 1) = xKn π p lamp step (rB τ v k) (mb (xBy π p lamp step (rB τ v k) ≠ 0)) j := by
    intro υ hυ u1 u2 u3
    generalize hω : mup (mup (mup υ 115 (6 * v + k) (xLost π p lamp (rB τ v k))) 120 4 (xLost π p lamp (rB τ v k))) 120 5 step = ω
    have wq : ∀ q, q ≠ 115 → q ≠ 120 → ω q = τ q := by
      intro q q1 q2
      rw [← hω, mup_off q2, mup_off q2, mup_off q1, hυ q q2]
    have w115 : ω 115 = mup1 (τ 115) (6 * v + k) (xLost π p lamp (rB τ v k)) := by
      rw [← hω, mup_off (by decide), mup_off (by decide), mup_row, hυ 115 (by decide)]
    have w120 : ∀ j, j < 5 → ω 120 (j + 1) = xKn π p lamp step (rB τ v k) 0 j := by
      intro j hj
      rw [← hω, mup_row, mup_row, mup_off (show (120 : Nat) ≠ 115 by decide)]
      unfold xKn
      rcases (by omega : j = 0 ∨ j = 1 ∨ j = 2 ∨ j = 3 ∨ j = 4) with rfl | rfl | rfl | rfl | rfl
      · rw [mup1_ne (by decide), mup1_ne (by decide)]; exact u1
      · rw [mup1_ne (by decide), mup1_ne (by decide)]; exact u2
      · rw [mup1_ne (by decide), mup1_ne (by decide)]; exact u3
      · rw [mup1_ne (by decide), mup1_at rfl]; rfl
      · rw [mup1_at rfl]; rfl
    have wR : PlR π p ω := hR.same (fun q h1 h2 => wq q (by omega) (by omega)) (by rw [wq 86 (by decide) (by decide)])
    have head : ∀ X, (mob (g_X12_isTold F 0 ω) (fun r314 σ315 => if mw r314 = 0 then (if 0 ≤ mw 2 ∧ mw 2 < (12 : Int) then if 0 ≤ mw 1 ∧ mw 1 < (12 : Int) then g_X12_steers_b176 F ((6 * v + k : Nat) : Int) (mw ((σ315 120 (mw 2).toNat) - (σ315 120 (mw 1).toNat))) σ315 else none else none) else (mob (g_X12_reckons F 0 σ315) (fun r316 σ317 => g_X12_steers_b176 F ((6 * v + k : Nat) : Int) r316 σ317)))) = X →
        g_X12_steers_b121 F (v : Int) ((6 * v + k : Nat) : Int) ((6 * v + k : Nat) : Int) (xLost π p lamp (rB τ v k)) υ = X := by
      intro X hX
      unfold g_X12_steers_b121
      refine e_t (mwR (by omega) (by decide)) (e_mem (e_t (mwR (by omega) (by decide)) (e_t (by decide) (e_mem (e_t (mwR (by omega) (by decide)) (e_t (by decide) (e_mem ?_)))))))
      rw [mwN (i := 6 * v + k) (by omega), mwN (i := v) (by omega), show (mw 4).toNat = 4 by decide, show (mw 5).toNat = 5 by decide, mup_at rfl rfl, mup_off (show (110 : Nat) ≠ 120 by decide), mup_off (show (110 : Nat) ≠ 115 by decide), hυ 110 (by decide), hstep, hω]
      exact hX
    -- the end, once the steering's value is known
    have tail : ∀ ψ : mMem, (∀ q, q ≠ 119 → ψ q = ω q) → ∃ τ', g_X12_steers_b176 F ((6 * v + k : Nat) : Int) (xBy π p lamp step (rB τ v k)) ψ = some (0, τ') ∧ (∀ q, q ≠ 113 → q ≠ 115 → q ≠ 119 → q ≠ 120 → τ' q = τ q) ∧ τ' 113 = mup1 (τ 113) (6 * v + k) (xWay (rB τ v k) (xBy π p lamp step (rB τ v k))) ∧ τ' 115 = mup1 (τ 115) (6 * v + k) (xLost π p lamp (rB τ v k)) ∧
      ∀ j, j < 7 → τ' 120 (j + 1) = xKn π p lamp step (rB τ v k) (mb (xBy π p lamp step (rB τ v k) ≠ 0)) j := by
      intro ψ hψ
      have e113 : ψ 113 (6 * v + k) = rB τ v k 2 := by rw [hψ _ (by decide), wq _ (by decide) (by decide), rB_2]
      have e114 : ψ 114 (6 * v + k) = rB τ v k 3 := by rw [hψ _ (by decide), wq _ (by decide) (by decide), rB_3]
      refine ⟨_, zs_176 (B := rB τ v k) (by omega) hby b2 e113, ?_, ?_, ?_, ?_⟩
      · intro q q1 q2 q3 q4
        rw [mup_off q1, mup_off q4, mup_off q4, hψ q q3, wq q q2 q4]
      · rw [mup_row, mup_off (by decide), mup_off (by decide), hψ _ (by decide), wq _ (by decide) (by decide)]
      · rw [mup_off (by decide), mup_off (by decide), mup_off (by decide), hψ _ (by decide), w115]
      · intro j hj
        rw [mup_off (show (120 : Nat) ≠ 113 by decide), mup_row, mup_row, e114]
        by_cases j5 : j < 5
        · rw [mup1_ne (by omega), mup1_ne (by omega), hψ _ (by decide), w120 j j5]
          unfold xKn
          rcases (by omega : j = 0 ∨ j = 1 ∨ j = 2 ∨ j = 3 ∨ j = 4) with rfl | rfl | rfl | rfl | rfl <;> rfl
        · rcases (by omega : j = 5 ∨ j = 6) with rfl | rfl
          · rw [mup1_ne (by decide), mup1_at rfl]; rfl
          · rw [mup1_at rfl]; rfl
    have told := zr_told (F := F) (a := 5) (w := 0) wR.1 (Or.inl rfl) wR.2.2.2.2.2.1 (fun c => by
      rcases p6 with q | ⟨q1, q2, q3, -⟩
      · exact absurd c (Int.not_lt.mpr q)
      · exact ⟨q1, by omega⟩)
    by_cases c5 : π p 5 < π p 6
    · rw [mb_t c5] at told
      obtain ⟨ψ, r1, r2⟩ := zr_rv (F := F) (a := 5) (w := 0) (m := 5) (kn := xKn π p lamp step (rB τ v k) 0) hF wR.1 (Or.inl rfl) wR.2.2.2.2.2.1 p6 c5 (fun j hj => w120 j (by omega)) (fun j hj => xKn_v hP hl hst b4 b3 (by omega) j (by omega))
      obtain ⟨τ', t1, t2⟩ := tail ψ r2
      refine ⟨τ', ?_, t2⟩
      refine head _ (e_mob told (e_f (by decide) (e_mob r1 ?_)))
      rw [← t1]
      unfold xBy
      rw [if_pos c5]
    · rw [mb_f c5] at told
      obtain ⟨τ', t1, t2⟩ := tail ω (fun _ _ => rfl)
      refine ⟨τ', ?_, t2⟩
      refine head _ (e_mob told (e_t (by decide) (e_t (by decide) (e_t (by decide) ?_))))
      rw [← t1, show (mw 2).toNat = 2 by decide, show (mw 1).toNat = 1 by decide]
      have w1 := w120 0 (by decide)
      have w2 := w120 1 (by decide)
      rw [show xKn π p lamp step (rB τ v k) 0 0 = xEye π p lamp (rB τ v k) (-1) from rfl] at w1
      rw [show xKn π p lamp step (rB τ v k) 0 1 = xEye π p lamp (rB τ v k) 1 from rfl] at w2
      rw [w1, w2, mw_id (by omega) (by omega)]
      unfold xBy
      rw [if_neg c5]
  -- the eyes, then the line lost
  obtain ⟨τ', t1, t2⟩ := fin (mup (mup (mup τ 120 1 (xEye π p lamp (rB τ v k) (-1))) 120 2 (xEye π p lamp (rB τ v k) 1)) 120 3 (xEye π p lamp (rB τ v k) 0)) (fun q hq => by rw [mup_off hq, mup_off hq, mup_off hq])
    (by rw [mup_row, mup_row, mup_row, mup1_ne (by decide), mup1_ne (by decide), mup1_at rfl]) (by rw [mup_row, mup_row, mup_row, mup1_ne (by decide), mup1_at rfl]) (by rw [mup_row, mup1_at rfl])
  refine ⟨τ', ?_, t2⟩
  rw [← t1]
  unfold g_X12_steers
  refine e_le ((6 * v + k : Nat) : Int) (by omega) ?_
  refine e_mob (eye τ (fun _ _ => rfl) 0 (-1) (Or.inl ⟨rfl, rfl⟩)) (e_t (by decide) (e_mem ?_))
  rw [show (mw 1).toNat = 1 by decide, show (mw 2).toNat = 2 by decide, show (mw 3).toNat = 3 by decide]
  refine e_mob (eye _ (fun q hq => by rw [mup_off hq]) 1 1 (Or.inr (Or.inl ⟨rfl, rfl⟩))) (e_t (by decide) (e_mem ?_))
  refine e_mob (eye _ (fun q hq => by rw [mup_off hq, mup_off hq]) 2 0 (Or.inr (Or.inr ⟨rfl, rfl⟩))) (e_t (by decide) (e_mem ?_))
  clear fin eye t1 t2
  unfold xLost
  have h115 : τ 115 (6 * v + k) = rB τ v k 4 := rfl
  generalize xEye π p lamp (rB τ v k) (-1) = L at *
  generalize xEye π p lamp (rB τ v k) 1 = Rr at *
  generalize xEye π p lamp (rB τ v k) 0 = M at *
  have m1 : (mup (mup (mup τ 120 1 L) 120 2 Rr) 120 3 M) 120 1 = L := by rw [mup_row, mup_row, mup_row, mup1_ne (by decide), mup1_ne (by decide), mup1_at rfl]
  have m2 : (mup (mup (mup τ 120 1 L) 120 2 Rr) 120 3 M) 120 2 = Rr := by rw [mup_row, mup_row, mup_row, mup1_ne (by decide), mup1_at rfl]
  have m3 : (mup (mup (mup τ 120 1 L) 120 2 Rr) 120 3 M) 120 3 = M := by rw [mup_row, mup1_at rfl]
  have m4 : (mup (mup (mup τ 120 1 L) 120 2 Rr) 120 3 M) 115 (6 * v + k) = rB τ v k 4 := by rw [mup_off (by decide), mup_off (by decide), mup_off (by decide), h115]
  generalize mup (mup (mup τ 120 1 L) 120 2 Rr) 120 3 M = υ at *
  rw [m1, m2, m3, mw_id (z := L) (by omega) (by omega), mw_id (z := Rr) (by omega) (by omega), mw_id (z := M) (by omega) (by omega), mw_id (z := 5) (by omega) (by omega)]
  have l1 : g_X12_steers_b76 F (v : Int) ((6 * v + k : Nat) : Int) υ = g_X12_steers_b121 F (v : Int) ((6 * v + k : Nat) : Int) ((6 * v + k : Nat) : Int) 0 υ := by
    unfold g_X12_steers_b76 g_X12_steers_b81
    exact e_f (by decide) rfl
  refine e_t (by decide) ?_
  by_cases c1 : 5 ≤ L
  · rw [if_pos (show 5 ≤ L ∨ 5 ≤ Rr ∨ 5 ≤ M from Or.inl c1)]
    exact e_t c1 l1
  · refine e_f c1 (e_t (by decide) ?_)
    by_cases c2 : 5 ≤ Rr
    · rw [if_pos (show 5 ≤ L ∨ 5 ≤ Rr ∨ 5 ≤ M from Or.inr (Or.inl c2))]
      exact e_t c2 l1
    · refine e_f c2 (e_t (by decide) ?_)
      by_cases c3 : 5 ≤ M
      · rw [if_pos (show 5 ≤ L ∨ 5 ≤ Rr ∨ 5 ≤ M from Or.inr (Or.inr c3))]
        exact e_f (by omega) l1
      · rw [if_neg (show ¬ (5 ≤ L ∨ 5 ≤ Rr ∨ 5 ≤ M) by omega)]
        refine e_t (by omega) ?_
        unfold g_X12_steers_b81
        refine e_t (by decide) (e_t (mwR (by omega) (by decide)) ?_)
        rw [mwN (i := 6 * v + k) (by omega), m4, mw_id (z := rB τ v k 4) (by omega) (by omega), mw_id (z := 99) (by omega) (by omega)]
        by_cases c4 : 99 ≤ rB τ v k 4
        · rw [show min 99 (rB τ v k 4 + 1) = 99 by omega]
          exact e_t c4 rfl
        · rw [show min 99 (rB τ v k 4 + 1) = rB τ v k 4 + 1 by omega]
          exact e_f c4 (e_t (mwR (by omega) (by decide)) rfl)
