/-! LAYER 2: on, a box, the reference -/
theorem two_n {a b : Int} (ha : 0 ≤ a ∧ a ≤ 255) (hb : 0 ≤ b ∧ b ≤ 255) : mor (mshl a 8) b = 256 * a + b := by
  rw [mshl_n 8 (by omega) (by omega) (by decide), mor_n 8 (by omega) (by omega) (by omega)]
  omega
theorem zr_two {F i : Nat} {τ : mMem} {b : Nat → Int} (hi : i < 1000) (h0 : τ 87 i = b i) (h1 : τ 87 (i + 1) = b (i + 1)) (r0 : 0 ≤ b i ∧ b i ≤ 255) (r1 : 0 ≤ b (i + 1) ∧ b (i + 1) ≤ 255) : g_X12_twoBytes F (i : Int) τ = some (256 * b i + b (i + 1), τ) := by
  unfold g_X12_twoBytes
  rw [mwN (i := i) (by omega), show (i : Int) + 1 = ((i + 1 : Nat) : Int) by omega, mwN (i := i + 1) (by omega), h0, h1, two_n r0 r1]
  exact e_t (mwR (by omega) (by decide)) (e_t (mwR (by omega) (by decide)) rfl)
/-- what a box of the picture is in layer 1 -/
def Bx (τ : mMem) (b : Nat → Int) (k : Nat) : Prop := τ 112 (6 + k) = 9 * b (3 + 8 * k + 1) + b (3 + 8 * k) ∧ τ 113 (6 + k) = b (3 + 8 * k + 2) ∧ τ 114 (6 + k) = 256 * b (3 + 8 * k + 3) + b (3 + 8 * k + 4) ∧ τ 115 (6 + k) = b (3 + 8 * k + 5) ∧ τ 116 (6 + k) = 256 * b (3 + 8 * k + 6) + b (3 + 8 * k + 7)
theorem zr_h110 {F n k l : Nat} {τ : mMem} {b : Nat → Int} (hn : n ≤ 6) (hk : k < n) (hl : l = 4 + 8 * n) (hT : Tp b l) (hB : Bx τ b k) (hon : b (3 + 8 * k) < 9 ∧ b (3 + 8 * k + 1) < 9) (hprev : ∀ j, j < k → τ 112 (6 + j) = 9 * b (3 + 8 * j + 1) + b (3 + 8 * j) ∧ b (3 + 8 * j) < 9 ∧ b (3 + 8 * j + 1) < 9) : ∀ (d j fuel : Nat), d + j = k → d < fuel → xWho (xNw b (fun _ _ => 0)) (b (3 + 8 * k)) (b (3 + 8 * k + 1)) j = -1 → g_X12_boxOn_h110 F fuel (k : Int) (6 + (k : Int)) (j : Int) τ = some (mb (xWho (xNw b (fun _ _ => 0)) (b (3 + 8 * k)) (b (3 + 8 * k + 1)) k = -1 ∧ b (3 + 8 * k + 2) ≤ 3 ∧ 256 * b (3 + 8 * k + 3) + b (3 + 8 * k + 4) ≤ 999 ∧ b (3 + 8 * k + 5) ≤ 99 ∧ 256 * b (3 + 8 * k + 6) + b (3 + 8 * k + 7) < 2520), τ) := by
  have T := hT.2
  have t0 := T (3 + 8 * k) (by omega)
  have t1 := T (3 + 8 * k + 1) (by omega)
  have t2 := T (3 + 8 * k + 2) (by omega)
  have t3 := T (3 + 8 * k + 3) (by omega)
  have t4 := T (3 + 8 * k + 4) (by omega)
  have t5 := T (3 + 8 * k + 5) (by omega)
  have t6 := T (3 + 8 * k + 6) (by omega)
  have t7 := T (3 + 8 * k + 7) (by omega)
  obtain ⟨B0, B1, B2, B3, B4⟩ := hB
  have n6 : (6 + (k : Int)).toNat = 6 + k := by omega
  intro d
  induction d with
  | zero =>
    intro j fuel h1 h2 hw
    obtain ⟨f, rfl⟩ : ∃ f, fuel = f + 1 := ⟨fuel - 1, by omega⟩
    have ej : j = k := by omega
    subst ej
    unfold g_X12_boxOn_h110 g_X12_boxOn_b192 g_X12_boxOn_b193
    rw [mw_id (z := 6 + (j : Int)) (by omega) (by omega), n6, B1, B2, B3, B4, mw_id (z := b (3 + 8 * j + 2)) (by omega) (by omega), mw_id (z := 256 * b (3 + 8 * j + 3) + b (3 + 8 * j + 4)) (by omega) (by omega), mw_id (z := b (3 + 8 * j + 5)) (by omega) (by omega), mw_id (z := 256 * b (3 + 8 * j + 6) + b (3 + 8 * j + 7)) (by omega) (by omega), mw_id (z := 4) (by decide) (by decide), mw_id (z := 999) (by decide) (by decide), mw_id (z := 99) (by decide) (by decide), mw_id (z := 2520) (by decide) (by decide)]
    refine e_t (Int.le_refl _) (e_t (by omega) ?_)
    by_cases d1 : (4 : Int) ≤ b (3 + 8 * j + 2)
    · rw [mb_f (by omega)]
      exact e_t d1 (e_t (by decide) rfl)
    · refine e_f d1 (e_t (by omega) ?_)
      by_cases d2 : (999 : Int) < 256 * b (3 + 8 * j + 3) + b (3 + 8 * j + 4)
      · rw [mb_f (by omega)]
        exact e_t d2 (e_t (by decide) rfl)
      · refine e_f d2 (e_t (by omega) ?_)
        by_cases d3 : (99 : Int) < b (3 + 8 * j + 5)
        · rw [mb_f (by omega)]
          exact e_t d3 (e_t (by decide) rfl)
        · refine e_f d3 (e_t (by omega) ?_)
          by_cases d4 : (2520 : Int) ≤ 256 * b (3 + 8 * j + 6) + b (3 + 8 * j + 7)
          · rw [mb_f (by omega)]
            exact e_t d4 (e_t (by decide) rfl)
          · rw [mb_t (by omega)]
            exact e_f d4 (e_t (by decide) rfl)
  | succ d ih =>
    intro j fuel h1 h2 hw
    obtain ⟨f, rfl⟩ : ∃ f, fuel = f + 1 := ⟨fuel - 1, by omega⟩
    obtain ⟨p1, p2, p3⟩ := hprev j (by omega)
    have s0 := T (3 + 8 * j) (by omega)
    have s1 := T (3 + 8 * j + 1) (by omega)
    unfold g_X12_boxOn_h110
    rw [mw_id (z := 6 + (k : Int)) (by omega) (by omega), n6, mw_id (z := 6 + (j : Int)) (by omega) (by omega), show (6 + (j : Int)).toNat = 6 + j by omega, p1, B0, mw_id (z := 9 * b (3 + 8 * j + 1) + b (3 + 8 * j)) (by omega) (by omega), mw_id (z := 9 * b (3 + 8 * k + 1) + b (3 + 8 * k)) (by omega) (by omega)]
    refine e_f (by rw [mw_id (by omega) (by omega), mw_id (by omega) (by omega)]; omega) (e_t (by omega) (e_t (by omega) ?_))
    by_cases c : 9 * b (3 + 8 * j + 1) + b (3 + 8 * j) = 9 * b (3 + 8 * k + 1) + b (3 + 8 * k)
    · have hit := xWho_hit (A := xNw b (fun _ _ => 0)) (c := b (3 + 8 * k)) (r := b (3 + 8 * k + 1)) (k := j) hw (by
        show b (3 + 8 * j) = b (3 + 8 * k) ∧ b (3 + 8 * j + 1) = b (3 + 8 * k + 1)
        omega) (k - j - 1)
      rw [show j + 1 + (k - j - 1) = k by omega] at hit
      rw [mb_f (fun q => by omega)]
      exact e_f (fun e => e c) (e_t (by decide) rfl)
    · have miss := xWho_miss (A := xNw b (fun _ _ => 0)) (c := b (3 + 8 * k)) (r := b (3 + 8 * k + 1)) (k := j) hw (by
        show ¬ (b (3 + 8 * j) = b (3 + 8 * k) ∧ b (3 + 8 * j + 1) = b (3 + 8 * k + 1))
        omega)
      have := ih (j + 1) f (by omega) (by omega) miss
      rw [show ((j + 1 : Nat) : Int) = (j : Int) + 1 by omega] at this
      exact e_t c this
theorem zr_rb {F p n k l : Nat} {π τ : mMem} {b : Nat → Int} (hF : 2000 ≤ F) (hn : n ≤ 6) (hk : k < n) (hR : PlR π p τ) (h9 : 0 ≤ π p 9 ∧ π p 9 ≤ 9) (h10 : 0 ≤ π p 10 ∧ π p 10 ≤ 9) (hl : l = 4 + 8 * n) (h2 : ∀ j, j < l → τ 87 j = b j) (hT : Tp b l) (hprev : ∀ j, j < k → τ 112 (6 + j) = 9 * b (3 + 8 * j + 1) + b (3 + 8 * j) ∧ b (3 + 8 * j) < 9 ∧ b (3 + 8 * j + 1) < 9) :
    ∃ τ', g_X12_boxOn F (k : Int) (3 + 8 * (k : Int)) τ = some (mb (okB (π p 9) (π p 10) b k), τ') ∧ (∀ q, ¬ (112 ≤ q ∧ q ≤ 116) → τ' q = τ q) ∧ (∀ q, 112 ≤ q → q ≤ 116 → ∀ j, j ≠ 6 + k → τ' q j = τ q j) ∧ (okB (π p 9) (π p 10) b k → Bx τ' b k) := by
  have T := hT.2
  have t0 := T (3 + 8 * k) (by omega)
  have t1 := T (3 + 8 * k + 1) (by omega)
  have t2 := T (3 + 8 * k + 2) (by omega)
  have e0 : (3 + 8 * (k : Int)) = ((3 + 8 * k : Nat) : Int) := by omega
  have e1 : (((3 + 8 * k : Nat) : Int) + 1) = ((3 + 8 * k + 1 : Nat) : Int) := by omega
  have e2 : (((3 + 8 * k : Nat) : Int) + 2) = ((3 + 8 * k + 2 : Nat) : Int) := by omega
  have e3 : (((3 + 8 * k : Nat) : Int) + 3) = ((3 + 8 * k + 3 : Nat) : Int) := by omega
  have e5 : (((3 + 8 * k : Nat) : Int) + 5) = ((3 + 8 * k + 5 : Nat) : Int) := by omega
  have e6 : (((3 + 8 * k : Nat) : Int) + 6) = ((3 + 8 * k + 6 : Nat) : Int) := by omega
  have ek : (6 + (k : Int)) = ((6 + k : Nat) : Int) := by omega
  have R1800 : ∀ i : Nat, i < 1000 → 0 ≤ mw (i : Int) ∧ mw (i : Int) < 1800 := fun i hi => mwR (by omega) (by decide)
  by_cases c1 : sOn (π p 9) (π p 10) (b (3 + 8 * k)) (b (3 + 8 * k + 1))
  · obtain ⟨M, eM⟩ : ∃ y, y = mup (mup (mup (mup (mup τ 112 (6 + k) (9 * b (3 + 8 * k + 1) + b (3 + 8 * k))) 113 (6 + k) (b (3 + 8 * k + 2))) 114 (6 + k) (256 * b (3 + 8 * k + 3) + b (3 + 8 * k + 4))) 115 (6 + k) (b (3 + 8 * k + 5))) 116 (6 + k) (256 * b (3 + 8 * k + 6) + b (3 + 8 * k + 7)) := ⟨_, rfl⟩
    have bx : Bx M b k := ⟨by rw [eM, mup_ne (by omega), mup_ne (by omega), mup_ne (by omega), mup_ne (by omega), mup_at rfl rfl], by rw [eM, mup_ne (by omega), mup_ne (by omega), mup_ne (by omega), mup_at rfl rfl], by rw [eM, mup_ne (by omega), mup_ne (by omega), mup_at rfl rfl], by rw [eM, mup_ne (by omega), mup_at rfl rfl], by rw [eM, mup_at rfl rfl]⟩
    have mne : ∀ q j, j ≠ 6 + k → M q j = τ q j := fun q j hj => by rw [eM, mup_ne (by omega), mup_ne (by omega), mup_ne (by omega), mup_ne (by omega), mup_ne (by omega)]
    have hh := zr_h110 (F := F) (τ := M) hn hk hl hT bx (by omega) (fun j hj => by rw [mne 112 (6 + j) (by omega)]; exact hprev j hj) k 0 F (by omega) (by omega) rfl
    refine ⟨M, ?_, fun q hq => by rw [eM, mup_off (by omega), mup_off (by omega), mup_off (by omega), mup_off (by omega), mup_off (by omega)], fun q _ _ j hj => mne q j hj, fun _ => bx⟩
    unfold g_X12_boxOn
    rw [e0, e1, e2, e3, e5, e6, ek]
    refine e_let ?_
    rw [mwN (i := 3 + 8 * k) (by omega), mwN (i := 3 + 8 * k + 1) (by omega), mwN (i := 3 + 8 * k + 2) (by omega), mwN (i := 3 + 8 * k + 5) (by omega), mwN (i := 6 + k) (by omega), h2 (3 + 8 * k) (by omega), h2 (3 + 8 * k + 1) (by omega)]
    refine e_t (R1800 _ (by omega)) (e_t (R1800 _ (by omega)) (e_mob (zr_isOni (by omega) (by omega) hR h9 h10) ?_))
    rw [mb_t c1, h2 (3 + 8 * k) (by omega), h2 (3 + 8 * k + 1) (by omega)]
    refine e_t (by decide) (e_t (R1800 _ (by omega)) (e_t (R1800 _ (by omega)) (e_t (mwR (by omega) (by decide)) (e_mem ?_))))
    rw [mup_off (o := 112) (q := 87) (by decide), h2 (3 + 8 * k + 2) (by omega)]
    refine e_t (R1800 _ (by omega)) (e_t (mwR (by omega) (by decide)) (e_mem ?_))
    refine e_mob (zr_two (b := b) (by omega) (by rw [mup_off (by decide), mup_off (by decide)]; exact h2 _ (by omega)) (by rw [mup_off (by decide), mup_off (by decide)]; exact h2 _ (by omega)) (T _ (by omega)) (T _ (by omega))) (e_t (mwR (by omega) (by decide)) (e_mem ?_))
    rw [mup_off (o := 114) (q := 87) (by decide), mup_off (o := 113) (q := 87) (by decide), mup_off (o := 112) (q := 87) (by decide), h2 (3 + 8 * k + 5) (by omega)]
    refine e_t (R1800 _ (by omega)) (e_t (mwR (by omega) (by decide)) (e_mem ?_))
    refine e_mob (zr_two (b := b) (by omega) (by rw [mup_off (by decide), mup_off (by decide), mup_off (by decide), mup_off (by decide)]; exact h2 _ (by omega)) (by rw [mup_off (by decide), mup_off (by decide), mup_off (by decide), mup_off (by decide)]; exact h2 _ (by omega)) (T _ (by omega)) (T _ (by omega))) (e_t (mwR (by omega) (by decide)) (e_mem ?_))
    rw [← ek]
    refine Eq.trans (b := g_X12_boxOn_h110 F F (k : Int) (6 + (k : Int)) ((0 : Nat) : Int) M) (congrArg (g_X12_boxOn_h110 F F (k : Int) (6 + (k : Int)) 0) eM.symm) ?_
    refine hh.trans ?_
    rw [mb_congr (show _ ↔ okB (π p 9) (π p 10) b k from ⟨fun q => ⟨c1, q⟩, fun q => q.2⟩)]
  · refine ⟨τ, ?_, fun _ _ => rfl, fun _ _ _ _ _ => rfl, fun ok => absurd ok.1 c1⟩
    unfold g_X12_boxOn
    rw [e0, e1, ek]
    refine e_let ?_
    rw [mwN (i := 3 + 8 * k) (by omega), mwN (i := 3 + 8 * k + 1) (by omega), h2 (3 + 8 * k) (by omega), h2 (3 + 8 * k + 1) (by omega)]
    refine e_t (R1800 _ (by omega)) (e_t (R1800 _ (by omega)) (e_mob (zr_isOni (by omega) (by omega) hR h9 h10) ?_))
    rw [mb_f c1, mb_f (fun ok : okB (π p 9) (π p 10) b k => c1 ok.1)]
    exact e_f (by decide) (e_t (by decide) rfl)
