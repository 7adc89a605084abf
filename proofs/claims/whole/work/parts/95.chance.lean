/-! LAYER 2: chance -/
def xSeed (S : Int) : Int := (1103515245 * S + 12345) % 2147483648
theorem xSeed_rng {S : Int} : 0 ≤ xSeed S ∧ xSeed S ≤ 2147483647 := by
  unfold xSeed
  omega
theorem zc_draw {F : Nat} {σ : mMem} {S k : Int} (h : σ 0 12 = S) (hS : 0 ≤ S ∧ S ≤ 2147483647) (hk : 0 < k ∧ k ≤ 1000) : g_X11_draw F k σ = some (xSeed S / 64 % k, mup σ 0 12 (xSeed S)) := by
  have sr := xSeed_rng (S := S)
  unfold g_X11_draw g_X11_draw_b41
  rw [h, mw_id (z := S) (by omega) (by omega), mwl_id (z := 1103515245 * S + 12345) (by omega) (by omega), mwl_id (z := 2147483648) (by decide) (by decide), mtmod (a := 1103515245 * S + 12345) (by omega), mwl_id (z := 64) (by decide) (by decide), mw_id (z := k) (by omega) (by omega), mwl_id (z := k) (by omega) (by omega)]
  refine e_f (by decide) (e_let (e_mem (e_f (by omega) (e_f (by decide) (e_f (by omega) ?_)))))
  show some ((mwl ((mwl (xSeed S)).tdiv 64)).tmod k, mup σ 0 12 (xSeed S)) = _
  rw [mwl_id (z := xSeed S) (by omega) (by omega), mtdiv (a := xSeed S) (by omega), mwl_id (z := xSeed S / 64) (by omega) (by omega), mtmod (by omega)]
theorem zr_draw {F : Nat} {τ : mMem} {S k : Int} (h : τ 86 54 = S) (hS : 0 ≤ S ∧ S ≤ 2147483647) (hk : 0 < k ∧ k ≤ 1000) : g_X12_draw F k τ = some (xSeed S / 64 % k, mup τ 86 54 (xSeed S)) := by
  have sr := xSeed_rng (S := S)
  unfold g_X12_draw
  rw [h, mwl_id (z := 1103515245 * S + 12345) (by omega) (by omega), mwl_id (z := 2147483648) (by decide) (by decide), mtmod (a := 1103515245 * S + 12345) (by omega), mwl_id (z := 64) (by decide) (by decide), mw_id (z := k) (by omega) (by omega), mwl_id (z := k) (by omega) (by omega)]
  refine e_f (by decide) (e_mem ?_)
  have e : mup τ 86 54 ((1103515245 * S + 12345) % 2147483648) 86 54 = xSeed S := by rw [mup_at rfl rfl]; rfl
  rw [e]
  refine e_f (by decide) (e_f (by omega) ?_)
  rw [mwl_id (z := xSeed S) (by omega) (by omega), mtdiv (a := xSeed S) (by omega), mwl_id (z := xSeed S / 64) (by omega) (by omega), mtmod (by omega)]
  rfl
/-- box b turned about -/
def xTb (A : Nat → Nat → Int) (b j f : Nat) : Int := if j = b ∧ f = 2 then (A j 2 + 2) % 4 else A j f
theorem xTb_BR {C R : Int} {A : Nat → Nat → Int} {b n : Nat} (hA : ∀ j, j < n → BR C R (A j)) : ∀ j, j < n → BR C R (xTb A b j) := by
  intro j hj
  obtain ⟨b0, b2, b3, b4, b5, b6, b7, b8⟩ := hA j hj
  have ne : ∀ f, f ≠ 2 → xTb A b j f = A j f := fun f hf => by unfold xTb; rw [if_neg (fun e => hf e.2)]
  have t2 : 0 ≤ xTb A b j 2 ∧ xTb A b j 2 ≤ 3 := by
    unfold xTb
    split
    · omega
    · exact b2
  unfold BR
  rw [ne 0 (by decide), ne 1 (by decide), ne 3 (by decide), ne 4 (by decide), ne 5 (by decide), ne 6 (by decide), ne 7 (by decide), ne 8 (by decide)]
  exact ⟨b0, t2, b3, b4, b5, b6, b7, b8⟩
theorem and3 {a : Int} (h : 0 ≤ a ∧ a ≤ 100) : mand a 3 = a % 4 := by
  rw [mand_k 2 3 (by decide) (by omega) (by decide)]
  rfl
theorem j_cat {F p n : Nat} {π υ σa : mMem} {lamp step T S : Int} {A : Nat → Nat → Int} {ring : Nat → Int} (hn : n ≤ 6) (hp : p = 3 ∨ p = 8) (h08 : σa 0 8 = (p : Int)) (hπ : σa p = π p) (h11 : π p 11 = (n : Int)) (h14 : 0 ≤ π p 14 ∧ π p 14 ≤ 100) (hS : 0 ≤ S ∧ S ≤ 2147483647) (hA : ∀ j, j < n → BR (π p 9) (π p 10) (A j)) (h : CNw p n lamp step A T ring S υ σa) :
    ∃ (c : Int) (A' : Nat → Nat → Int) (S' : Int) (υ' : mMem), (c = 0 ∨ c = 1) ∧ g_X11_letCatCome F υ = some (c, υ') ∧ CNw p n lamp step A' T ring S' υ' σa ∧ (∀ j, j < n → BR (π p 9) (π p 10) (A' j)) ∧ (0 ≤ S' ∧ S' ≤ 2147483647) ∧ ∀ τa τ, PlR π p τa → τa 97 (3 * (τa 86 13).toNat + 2) = π p 14 → RNw n lamp step A T ring S τ τa → ∃ τ', RNw n lamp step A' T ring S' τ' τa ∧ ∀ (f : Nat) (x1 x2 x3 : Int), ¬ mw x1 ≤ mw x3 → g_X12_chance_h25 F (f + 1) x1 x2 x3 τ = g_X12_chance_b92 F (g_X12_chance_h25 F f) x1 (x2 + c) x3 τ' := by
  obtain ⟨h1, h2, h3, h4, h5, h6, h7, c1, c2, c3, c4, c5⟩ := h
  have sr := xSeed_rng (S := S)
  have sr2 := xSeed_rng (S := xSeed S)
  obtain ⟨υ1, e1⟩ : ∃ y, y = mup υ 0 12 (xSeed S) := ⟨_, rfl⟩
  have o1 : ∀ q, q ≠ 0 → υ1 q = υ q := fun q hq => by rw [e1, mup_off hq]
  have o10 : ∀ j, j ≠ 12 → υ1 0 j = υ 0 j := fun j hj => by rw [e1, mup_ne (by omega)]
  have cn1 : CNw p n lamp step A T ring (xSeed S) υ1 σa := ⟨fun j hj g hg => by show υ1 21 (10 * j + g) = A j g; rw [o1 21 (by decide)]; exact h1 j hj g hg, by rw [o1 20 (by decide)]; exact h2, by rw [o1 20 (by decide)]; exact h3, by rw [o1 20 (by decide)]; exact h4, by rw [o1 54 (by decide)]; exact h5, by rw [o1 76 (by decide)]; exact h6, by rw [e1, mup_at rfl rfl], fun q hq => by rw [o1 q (by omega)]; exact c1 q hq, fun j hj => by rw [o10 j hj]; exact c2 j hj, by rw [o1 20 (by decide)]; exact c3, by rw [o1 54 (by decide)]; exact c4, by rw [o1 54 (by decide)]; exact c5⟩
  have v08 : υ1 0 8 = (p : Int) := by rw [o10 8 (by decide), c2 8 (by decide)]; exact h08
  have vp : υ1 p = π p := by rw [o1 p (by omega), c1 p (by omega)]; exact hπ
  have dr : 0 ≤ xSeed S / 64 % 100 ∧ xSeed S / 64 % 100 < 100 := by omega
  have hc : ∀ X, (if π p 14 ≤ xSeed S / 64 % 100 then (g_X11_letCatCome_b26 F υ1) else (if ¬ (n : Int) = 0 then (mob (g_X11_draw F (n : Int) υ1) (fun r6 σ7 => mob (g_X10_turnBy F 20 r6 2 σ7) (fun r8 σ9 => if mw 1 = 0 ∨ mw 1 = 1 then some (1, σ9) else none))) else (g_X11_letCatCome_b26 F υ1))) = X → g_X11_letCatCome F υ = X := by
    intro X hX
    unfold g_X11_letCatCome
    refine e_mob (zc_draw h7 hS (by decide)) ?_
    rw [← e1, v08, show ((p : Int)).toNat = p by omega, vp, h11, mw_id (z := π p 14) (by omega) (by omega), mw_id (z := xSeed S / 64 % 100) (by omega) (by omega), mw_id (z := (n : Int)) (by omega) (by omega)]
    refine e_t (by omega) (Eq.trans ?_ hX)
    by_cases c : π p 14 ≤ xSeed S / 64 % 100
    · exact (if_pos c).trans (if_pos c).symm
    · refine (if_neg c).trans (Eq.trans ?_ (if_neg c).symm)
      refine e_t (by omega) ?_
      by_cases cn : (n : Int) = 0
      · exact (if_neg (fun e => e cn)).trans (if_neg (fun e => e cn)).symm
      · exact (if_pos cn).trans ((if_pos (by omega)).trans (if_pos cn).symm)
  -- the reference, to where it has drawn once
  have hr1 : ∀ τa τ, PlR π p τa → τa 97 (3 * (τa 86 13).toNat + 2) = π p 14 → RNw n lamp step A T ring S τ τa → ∃ τ1, τ1 = mup τ 86 54 (xSeed S) ∧ RNw n lamp step A T ring (xSeed S) τ1 τa ∧ ∀ (f : Nat) (x1 x2 x3 : Int) (X : mRs), ¬ mw x1 ≤ mw x3 → (if π p 14 ≤ xSeed S / 64 % 100 then (g_X12_chance_b92 F (g_X12_chance_h25 F f) x1 x2 x3 τ1) else (if (n : Int) ≤ 0 then (g_X12_chance_b92 F (g_X12_chance_h25 F f) x1 x2 x3 τ1) else (mob (g_X12_draw F (n : Int) τ1) (fun r111 σ112 => if 0 ≤ mw r111 ∧ mw r111 < (132 : Int) then if mw 4 = 0 then none else (if 0 ≤ mw r111 ∧ mw r111 < (132 : Int) then mlm (mup σ112 113 (mw r111).toNat ((mw ((σ112 113 (mw r111).toNat) + 2)).tmod (mw 4))) (fun σ113 => g_X12_chance_b92 F (g_X12_chance_h25 F f) x1 (x2 + 1) x3 σ113) else none) else none)))) = X → g_X12_chance_h25 F (f + 1) x1 x2 x3 τ = X := by
    intro τa τ hR h97 hr
    obtain ⟨r1, r2, r3, r4, r5, d1, d2, d3, d4⟩ := hr
    obtain ⟨τ1, f1⟩ : ∃ y, y = mup τ 86 54 (xSeed S) := ⟨_, rfl⟩
    have p1 : ∀ q, q ≠ 86 → τ1 q = τ q := fun q hq => by rw [f1, mup_off hq]
    have p86 : ∀ j, j ≠ 54 → τ1 86 j = τ 86 j := fun j hj => by rw [f1, mup_ne (by omega)]
    have p13 : τ1 86 13 = τa 86 13 := by rw [p86 13 (by decide)]; exact d3 13 (by decide) (by decide) (by decide)
    have b13 := hR.1
    have eB : ∀ j, rB τ1 0 j = rB τ 0 j := fun j => by
      funext g
      unfold rB
      rw [p86 57 (by decide), p86 58 (by decide), p86 59 (by decide), p86 60 (by decide), p86 61 (by decide), p86 13 (by decide), p1 94 (by decide), p1 95 (by decide), p1 96 (by decide), p1 112 (by decide), p1 113 (by decide), p1 114 (by decide), p1 115 (by decide), p1 116 (by decide)]
    refine ⟨τ1, f1, ⟨fun j hj => by rw [eB j, p1 112 (by decide)]; exact r1 j hj, by rw [p1 110 (by decide)]; exact r2, by rw [p1 111 (by decide)]; exact r3, r4.congr (by rw [p1 117 (by decide)]) (fun _ _ _ => by rw [p1 118 (by decide)]), by rw [f1, mup_at rfl rfl], fun q q1 q2 => by rw [p1 q q2]; exact d1 q q1 q2, fun q hq => by rw [p1 q (by omega)]; exact d2 q hq, fun j j1 j2 j3 => by rw [p86 j j1]; exact d3 j j1 j2 j3, fun L l1 l2 => (LE.of (fun q q1 q2 => p1 q (by omega))).tr (d4 L l1 l2)⟩, fun f x1 x2 x3 X hx hX => ?_⟩
    conv => lhs; unfold g_X12_chance_h25
    refine e_f hx (e_mob (zr_draw r5 hS (by decide)) ?_)
    rw [← f1]
    have told : g_X12_toldOf F 2 τ1 = some (π p 14, τ1) := by
      unfold g_X12_toldOf
      rw [p13, mw_id (z := 3 * τa 86 13 + 2) (by omega) (by omega), show (3 * τa 86 13 + 2).toNat = 3 * (τa 86 13).toNat + 2 by omega, p1 97 (by decide), d1 97 (by decide) (by decide), h97]
      exact e_t (by omega) rfl
    refine e_mob told ?_
    have n11 : τ1 91 (τa 86 13).toNat = (n : Int) := by rw [p1 91 (by decide), d1 91 (by decide) (by decide), hR.2.2.2.1, h11]
    rw [p13, mw_id (z := τa 86 13) (by omega) (by omega), n11, mw_id (z := π p 14) (by omega) (by omega), mw_id (z := xSeed S / 64 % 100) (by omega) (by omega), mw_id (z := (n : Int)) (by omega) (by omega)]
    refine Eq.trans ?_ hX
    by_cases c : π p 14 ≤ xSeed S / 64 % 100
    · exact (if_pos c).trans (if_pos c).symm
    · refine (if_neg c).trans (Eq.trans ?_ (if_neg c).symm)
      refine e_t (by omega) ?_
      by_cases cn : (n : Int) ≤ 0
      · exact (if_pos cn).trans (if_pos cn).symm
      · refine (if_neg cn).trans (Eq.trans ?_ (if_neg cn).symm)
        exact e_t (by omega) rfl
  by_cases c : π p 14 ≤ xSeed S / 64 % 100 ∨ n = 0
  · refine ⟨0, A, xSeed S, υ1, Or.inl rfl, hc _ ?_, cn1, hA, sr, fun τa τ hR h97 hr => ?_⟩
    · by_cases cc : π p 14 ≤ xSeed S / 64 % 100
      · exact (if_pos cc).trans (e_t (by decide) rfl)
      · exact (if_neg cc).trans ((if_neg (by omega)).trans (e_t (by decide) rfl))
    · obtain ⟨τ1, -, w1, w2⟩ := hr1 τa τ hR h97 hr
      refine ⟨τ1, w1, fun f x1 x2 x3 hx => w2 f x1 x2 x3 _ hx ?_⟩
      rw [Int.add_zero]
      by_cases cc : π p 14 ≤ xSeed S / 64 % 100
      · exact if_pos cc
      · exact (if_neg cc).trans (if_pos (by omega))
  · have n0 : 0 < n := by omega
    obtain ⟨b, hb⟩ : ∃ b : Nat, (b : Int) = xSeed (xSeed S) / 64 % n := ⟨(xSeed (xSeed S) / 64 % n).toNat, by
      have := Int.emod_nonneg (xSeed (xSeed S) / 64) (show (n : Int) ≠ 0 by omega)
      omega⟩
    have bn : b < n := by
      have := Int.emod_lt_of_pos (xSeed (xSeed S) / 64) (show (0 : Int) < n by omega)
      omega
    have A2 := (hA b bn).2.1
    obtain ⟨υ2, e2⟩ : ∃ y, y = mup (mup υ1 0 12 (xSeed (xSeed S))) (20 + 1) (10 * b + 2) ((A b 2 + 2) % 4) := ⟨_, rfl⟩
    have o2 : ∀ q, q ≠ 0 → q ≠ 21 → υ2 q = υ1 q := fun q q1 q2 => by rw [e2, mup_off (by omega), mup_off q1]
    have o20 : ∀ j, j ≠ 12 → υ2 0 j = υ1 0 j := fun j hj => by rw [e2, mup_off (by decide), mup_ne (by omega)]
    obtain ⟨k1, k2, k3, k4, k5, k6, k7, q1, q2, q3, q4, q5⟩ := cn1
    have v2 : υ1 (20 + 1) (10 * b + 2) = A b 2 := k1 b bn 2 (by decide)
    refine ⟨1, xTb A b, xSeed (xSeed S), υ2, Or.inr rfl, hc _ ?_, ⟨fun j hj g hg => ?_, by rw [o2 20 (by decide) (by decide)]; exact k2, by rw [o2 20 (by decide) (by decide)]; exact k3, by rw [o2 20 (by decide) (by decide)]; exact k4, by rw [o2 54 (by decide) (by decide)]; exact k5, by rw [o2 76 (by decide) (by decide)]; exact k6, by rw [e2, mup_off (by decide), mup_at rfl rfl], fun q hq => by rw [o2 q (by omega) (by omega)]; exact q1 q hq, fun j hj => by rw [o20 j hj]; exact q2 j hj, by rw [o2 20 (by decide) (by decide)]; exact q3, by rw [o2 54 (by decide) (by decide)]; exact q4, by rw [o2 54 (by decide) (by decide)]; exact q5⟩, xTb_BR hA, sr2, fun τa τ hR h97 hr => ?_⟩
    · refine (if_neg (by omega)).trans ((if_pos (by omega)).trans (e_mob (zc_draw k7 sr (by omega)) ?_))
      rw [← hb]
      refine e_mob (zt_1 (by omega)) ?_
      rw [mup_off (o := 0) (q := 20 + 1) (by decide), v2, and3 (by omega), ← e2]
      exact e_t (by decide) rfl
    · show υ2 21 (10 * j + g) = xTb A b j g
      unfold xTb
      by_cases cj : j = b ∧ g = 2
      · rw [if_pos cj, cj.1, cj.2, e2, mup_at rfl rfl]
      · rw [if_neg cj, e2, mup_ne (by omega), mup_off (by decide)]
        exact k1 j hj g hg
    · obtain ⟨τ1, ft1, w1, w2⟩ := hr1 τa τ hR h97 hr
      obtain ⟨r1, r2, r3, r4, r5, d1, d2, d3, d4⟩ := w1
      have t113 : τ1 113 b = A b 2 := by
        have := (r1 b bn).1 2 (by decide)
        rw [rB_2, show 6 * 0 + b = b by omega] at this
        exact this
      obtain ⟨τ2, f2⟩ : ∃ y, y = mup (mup τ1 86 54 (xSeed (xSeed S))) 113 b ((A b 2 + 2) % 4) := ⟨_, rfl⟩
      have p2 : ∀ q, q ≠ 86 → q ≠ 113 → τ2 q = τ1 q := fun q g1 g2 => by rw [f2, mup_off g2, mup_off g1]
      have p286 : ∀ j, j ≠ 54 → τ2 86 j = τ1 86 j := fun j hj => by rw [f2, mup_off (by decide), mup_ne (by omega)]
      have p113 : ∀ j, j ≠ b → τ2 113 j = τ1 113 j := fun j hj => by rw [f2, mup_ne (by omega), mup_off (by decide)]
      refine ⟨τ2, ⟨fun j hj => ⟨fun g hg => ?_, by rw [p2 112 (by decide) (by decide)]; exact (r1 j hj).2⟩, by rw [p2 110 (by decide) (by decide)]; exact r2, by rw [p2 111 (by decide) (by decide)]; exact r3, r4.congr (by rw [p2 117 (by decide) (by decide)]) (fun _ _ _ => by rw [p2 118 (by decide) (by decide)]), by rw [f2, mup_off (by decide), mup_at rfl rfl], fun q g1 g2 => by rw [p2 q g2 (by omega)]; exact d1 q g1 g2, fun q hq => by rw [p2 q (by omega) (by omega)]; exact d2 q hq, fun j j1 j2 j3 => by rw [p286 j j1]; exact d3 j j1 j2 j3, fun L l1 l2 => LE.tr (b := τ1) (B := L) ⟨by rw [p2 110 (by decide) (by decide)], by rw [p2 111 (by decide) (by decide)], by rw [p2 117 (by decide) (by decide)], fun q g1 g2 k _ => ?_, fun k _ _ => by rw [p2 118 (by decide) (by decide)]⟩ (d4 L l1 l2)⟩, fun f x1 x2 x3 hx => w2 f x1 x2 x3 _ hx ?_⟩
      · have E := (r1 j hj).1 g hg
        unfold xTb
        by_cases cj : j = b ∧ g = 2
        · rw [if_pos cj, cj.1, cj.2, rB_2, show 6 * 0 + b = b by omega, f2, mup_at rfl rfl]
        · rw [if_neg cj, ← E]
          unfold rB
          rw [show 6 * 0 + j = j by omega, p286 57 (by decide), p286 58 (by decide), p286 59 (by decide), p286 60 (by decide), p286 61 (by decide), p286 13 (by decide), p2 94 (by decide) (by decide), p2 95 (by decide) (by decide), p2 96 (by decide) (by decide), p2 112 (by decide) (by decide), p2 114 (by decide) (by decide), p2 115 (by decide) (by decide), p2 116 (by decide) (by decide)]
          by_cases cg : g = 2
          · have jb : j ≠ b := fun e => cj ⟨e, cg⟩
            rw [p113 j jb]
          · rw [if_neg cg, if_neg cg]
      · by_cases c13 : q = 113
        · rw [c13]; exact p113 _ (by omega)
        · rw [p2 q (by omega) c13]
      · refine (if_neg (by omega)).trans ((if_neg (by omega)).trans (e_mob (zr_draw r5 sr (by omega)) ?_))
        rw [← hb, mwN (i := b) (by omega), mup_off (o := 86) (q := 113) (by decide), t113, mw_id (z := A b 2 + 2) (by omega) (by omega), mw_id (z := 4) (by decide) (by decide), mtmod (by omega), ← f2]
        exact e_t (mwR (by omega) (by decide)) (e_f (by decide) (e_t (mwR (by omega) (by decide)) (e_mem rfl)))
