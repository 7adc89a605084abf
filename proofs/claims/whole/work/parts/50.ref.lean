/-! LAYER 2: the reference: what it reads -/
/-- the fields of box k in layer v of the reference -/
def rB (τ : mMem) (v k f : Nat) : Int := if f = 0 then τ 112 (6 * v + k) % 9 else if f = 1 then τ 112 (6 * v + k) / 9 else if f = 2 then τ 113 (6 * v + k) else if f = 3 then τ 114 (6 * v + k) else if f = 4 then τ 115 (6 * v + k)
  else if f = 5 then (if (k : Int) = τ 86 57 then τ 86 58 else τ 94 (6 * (τ 86 13).toNat + k)) else if f = 6 then (if (k : Int) = τ 86 57 then τ 86 59 else τ 95 (6 * (τ 86 13).toNat + k)) else if f = 7 then (if (k : Int) = τ 86 60 then τ 86 61 else τ 96 (6 * (τ 86 13).toNat + k)) else τ 116 (6 * v + k)
def FmR (π : mMem) (p : Nat) (τ : mMem) (a w : Nat) : Prop := (π p (a + 1) ≤ π p a ∧ τ 98 (2 * (τ 86 13).toNat + w) = -1) ∨ (π p a < π p (a + 1) ∧ τ 98 (2 * (τ 86 13).toNat + w) = π p a ∧ τ 99 (2 * (τ 86 13).toNat + w) = π p (a + 1) ∧ ∀ j : Nat, π p a ≤ (j : Int) → (j : Int) < π p (a + 1) → srt (τ 100 (1600 * (τ 86 13).toNat + j)) (τ 101 (1600 * (τ 86 13).toNat + j)) ∧ trc (τ 100 (1600 * (τ 86 13).toNat + j)) (τ 101 (1600 * (τ 86 13).toNat + j)) = π (p + 4) j)
/-- the reference's bank holds the class's plan -/
def PlR (π : mMem) (p : Nat) (τ : mMem) : Prop := (τ 86 13 = 0 ∨ τ 86 13 = 1) ∧ τ 88 (τ 86 13).toNat = π p 9 ∧ τ 89 (τ 86 13).toNat = π p 10 ∧ τ 91 (τ 86 13).toNat = π p 11 ∧ (∀ j, j < 81 → τ 90 (81 * (τ 86 13).toNat + j) = π (p + 1) j) ∧ FmR π p τ 5 0 ∧ FmR π p τ 7 1
theorem zr_is {F : Nat} {σ : mMem} {v a b : Int} (h : sml v ∧ sml a ∧ sml b) : g_X12_is F v a b σ = some (mb (a ≤ v ∧ v ≤ b), σ) := by
  simp (disch := omega) only [g_X12_is, g_X12_is_b15, g_X12_is_b14, mw_id, mb]
  grind
theorem zr_isOn {F p : Nat} {π τ : mMem} {c r : Int} (hc : sml c) (hr : sml r) (hR : PlR π p τ) (h1 : 0 ≤ π p 9 ∧ π p 9 ≤ 9) (h2 : 0 ≤ π p 10 ∧ π p 10 ≤ 9) : g_X12_isOn F c r τ = some (mb (sOn (π p 9) (π p 10) c r), τ) := by
  obtain ⟨hb, q9, q10, -⟩ := hR
  have mbk : mw (τ 86 13) = τ 86 13 := mw_id (by omega) (by omega)
  unfold g_X12_isOn g_X12_isOn_b42 g_X12_isOn_b43
  rw [mbk]
  refine e_t (by omega) ?_
  rw [q9]
  refine e_mob (zr_is (by omega)) ?_
  by_cases a1 : 0 ≤ c ∧ c ≤ π p 9 - 1
  · rw [mb_t a1]
    refine e_f (by decide) ?_
    rw [mbk]
    refine e_t (by omega) ?_
    rw [q10]
    refine e_mob (zr_is (by omega)) ?_
    by_cases a2 : 0 ≤ r ∧ r ≤ π p 10 - 1
    · rw [mb_t a2, mb_t (show sOn (π p 9) (π p 10) c r by unfold sOn; omega)]
      exact e_f (by decide) (e_t (by decide) rfl)
    · rw [mb_f a2, mb_f (show ¬ sOn (π p 9) (π p 10) c r by unfold sOn; omega)]
      exact e_t (by decide) (e_t (by decide) rfl)
  · rw [mb_f a1, mb_f (show ¬ sOn (π p 9) (π p 10) c r by unfold sOn; omega)]
    exact e_t (by decide) (e_t (by decide) rfl)
theorem zr_col {F : Nat} {σ : mMem} {w : Int} (h : 0 ≤ w ∧ w ≤ 3) : g_X12_columnBy F w σ = some (sdc w, σ) := by
  obtain ⟨h1, h2⟩ := h
  rcases (by omega : w = 0 ∨ w = 1 ∨ w = 2 ∨ w = 3) with rfl | rfl | rfl | rfl <;> rfl
theorem zr_row {F : Nat} {σ : mMem} {w : Int} (h : 0 ≤ w ∧ w ≤ 3) : g_X12_rowBy F w σ = some (sdr w, σ) := by
  obtain ⟨h1, h2⟩ := h
  rcases (by omega : w = 0 ∨ w = 1 ∨ w = 2 ∨ w = 3) with rfl | rfl | rfl | rfl <;> rfl
theorem zr_off {F p : Nat} {π τ : mMem} {cell w far aside c r : Int} (hcell : 0 ≤ cell ∧ cell ≤ 80) (hw : 0 ≤ w ∧ w ≤ 3) (hfar : 0 ≤ far ∧ far ≤ 3) (has : -2 ≤ aside ∧ aside ≤ 2) (hR : PlR π p τ) (h1 : 0 ≤ π p 9 ∧ π p 9 ≤ 9) (h2 : 0 ≤ π p 10 ∧ π p 10 ≤ 9) (hc : c = cell % 9 + far * sdc w + aside * sdc ((w + 1) % 4)) (hr : r = cell / 9 + far * sdr w + aside * sdr ((w + 1) % 4)) :
    g_X12_off F cell w far aside τ = some (if sOn (π p 9) (π p 10) c r then 9 * r + c else -1, τ) := by
  have d1 := mul_rng hfar (sdc_rng w)
  have d2 := mul_rng2 (M := 2) has (sdc_rng ((w + 1) % 4))
  have d3 := mul_rng hfar (sdr_rng w)
  have d4 := mul_rng2 (M := 2) has (sdr_rng ((w + 1) % 4))
  have ew : (mw (w + 1)).tmod (mw 4) = (w + 1) % 4 := by simp (disch := omega) only [mw_id, mwl_id, mtmod, mtdiv]
  have ec : (mw cell).tmod (mw 9) = cell % 9 := by simp (disch := omega) only [mw_id, mwl_id, mtmod, mtdiv]
  have er : (mw cell).tdiv (mw 9) = cell / 9 := by simp (disch := omega) only [mw_id, mwl_id, mtmod, mtdiv]
  unfold g_X12_off g_X12_off_b74
  refine e_f (by decide) (e_le _ ew (e_f (by decide) ?_))
  refine e_mob (zr_col hw) (e_mob (zr_col (by omega)) ?_)
  rw [ec]
  refine e_le c hc.symm ?_
  refine e_f (by decide) ?_
  refine e_mob (zr_row hw) (e_mob (zr_row (by omega)) ?_)
  rw [er]
  refine e_le r hr.symm ?_
  refine e_mob (zr_isOn (by omega) (by omega) hR h1 h2) ?_
  by_cases hon : sOn (π p 9) (π p 10) c r
  · rw [mb_t hon, if_pos hon]
    exact e_f (by decide) rfl
  · rw [mb_f hon, if_neg hon]
    exact e_t (by decide) rfl
theorem zr_seen {F p v : Nat} {π τ : mMem} {c r lamp : Int} (hv : v < 22) (hR : PlR π p τ) (h9 : 0 ≤ π p 9 ∧ π p 9 ≤ 9) (h10 : 0 ≤ π p 10 ∧ π p 10 ≤ 9) (hg : ∀ j, j < 81 → 0 ≤ π (p + 1) j ∧ π (p + 1) j ≤ 9) (hlamp : τ 111 v = lamp) (hl : 0 ≤ lamp ∧ lamp ≤ 9) :
    g_X12_seen F (v : Int) (if sOn (π p 9) (π p 10) c r then 9 * r + c else -1) τ = some (max 0 (sGrey (π p 9) (π p 10) (π (p + 1)) c r - lamp), τ) := by
  obtain ⟨hb, -, -, -, q5, -⟩ := hR
  unfold g_X12_seen sGrey g_X12_seen_b30 g_X12_seen_b40
  by_cases hon : sOn (π p 9) (π p 10) c r
  · rw [if_pos hon, if_pos hon]
    have hj : 0 ≤ 9 * r + c ∧ 9 * r + c ≤ 80 := by unfold sOn at hon; omega
    have e1 : mw (81 * τ 86 13 + (9 * r + c)) = 81 * τ 86 13 + (9 * r + c) := mw_id (by omega) (by omega)
    have e2 : (81 * τ 86 13 + (9 * r + c)).toNat = 81 * (τ 86 13).toNat + (r * 9 + c).toNat := by omega
    have e3 : τ 90 (81 * (τ 86 13).toNat + (r * 9 + c).toNat) = π (p + 1) (r * 9 + c).toNat := q5 _ (by omega)
    have g1 := hg (r * 9 + c).toNat (by omega)
    refine e_t (by rw [mw_id (by omega) (by omega), mw_id (by omega) (by omega)]; omega) ?_
    rw [e1, e2]
    refine e_t (by omega) ?_
    refine e_t (by rw [mw_id (by omega) (by omega)]; omega) ?_
    rw [show (mw (v : Int)).toNat = v by rw [mw_id (by omega) (by omega)]; omega, e3, hlamp]
    by_cases h0 : 0 ≤ π (p + 1) (r * 9 + c).toNat - lamp
    · refine (e_t (by rw [mw_id (by omega) (by omega)]; exact h0) rfl).trans ?_
      rw [show max 0 (π (p + 1) (r * 9 + c).toNat - lamp) = π (p + 1) (r * 9 + c).toNat - lamp by omega]
    · refine (e_f (by rw [mw_id (by omega) (by omega)]; exact h0) rfl).trans ?_
      rw [show max 0 (π (p + 1) (r * 9 + c).toNat - lamp) = 0 by omega]
  · rw [if_neg hon, if_neg hon]
    refine e_f (by decide) ?_
    refine (e_t (by decide) rfl).trans ?_
    rw [show max 0 (0 - lamp) = 0 by omega]
/-- the numbers that the reference holds of box k in layer v are as they may be -/
def BRr (C R : Int) (τ : mMem) (v k : Nat) : Prop := (0 ≤ τ 112 (6 * v + k) ∧ τ 112 (6 * v + k) ≤ 80) ∧ BR C R (rB τ v k)
theorem zr_apart {F k v : Nat} {τ : mMem} (hk : k < 6) (hb : τ 86 13 = 0 ∨ τ 86 13 = 1) (h57 : sml (τ 86 57)) : g_X12_apart F (k : Int) τ = some (rB τ v k 5, τ) := by
  unfold g_X12_apart g_X12_apart_b29 rB
  simp only [Nat.reduceEqDiff, if_false, if_true]
  by_cases e : (k : Int) = τ 86 57
  · rw [if_pos e]
    exact e_f (by rw [e]; exact fun q => q rfl) rfl
  · rw [if_neg e]
    refine e_t (by rw [mw_id (by omega) (by omega), mw_id (by omega) (by omega)]; exact e) ?_
    rw [mw_id (z := 6 * τ 86 13 + (k : Int)) (by omega) (by omega)]
    refine (e_t (by omega) rfl).trans ?_
    rw [show (6 * τ 86 13 + (k : Int)).toNat = 6 * (τ 86 13).toNat + k by omega]
theorem zr_on {F k v : Nat} {τ : mMem} (hk : k < 6) (hb : τ 86 13 = 0 ∨ τ 86 13 = 1) (h57 : sml (τ 86 57)) : g_X12_on F (k : Int) τ = some (rB τ v k 6, τ) := by
  unfold g_X12_on g_X12_on_b29 rB
  simp only [Nat.reduceEqDiff, if_false, if_true]
  by_cases e : (k : Int) = τ 86 57
  · rw [if_pos e]
    exact e_f (by rw [e]; exact fun q => q rfl) rfl
  · rw [if_neg e]
    refine e_t (by rw [mw_id (by omega) (by omega), mw_id (by omega) (by omega)]; exact e) ?_
    rw [mw_id (z := 6 * τ 86 13 + (k : Int)) (by omega) (by omega)]
    refine (e_t (by omega) rfl).trans ?_
    rw [show (6 * τ 86 13 + (k : Int)).toNat = 6 * (τ 86 13).toNat + k by omega]
theorem zr_bias {F k v : Nat} {τ : mMem} (hk : k < 6) (hb : τ 86 13 = 0 ∨ τ 86 13 = 1) (h60 : sml (τ 86 60)) : g_X12_bias F (k : Int) τ = some (rB τ v k 7, τ) := by
  unfold g_X12_bias g_X12_bias_b29 rB
  simp only [Nat.reduceEqDiff, if_false, if_true]
  by_cases e : (k : Int) = τ 86 60
  · rw [if_pos e]
    exact e_f (by rw [e]; exact fun q => q rfl) rfl
  · rw [if_neg e]
    refine e_t (by rw [mw_id (by omega) (by omega), mw_id (by omega) (by omega)]; exact e) ?_
    rw [mw_id (z := 6 * τ 86 13 + (k : Int)) (by omega) (by omega)]
    refine (e_t (by omega) rfl).trans ?_
    rw [show (6 * τ 86 13 + (k : Int)).toNat = 6 * (τ 86 13).toNat + k by omega]
theorem rB_0 {τ : mMem} {v k : Nat} : rB τ v k 0 = τ 112 (6 * v + k) % 9 := rfl
theorem rB_1 {τ : mMem} {v k : Nat} : rB τ v k 1 = τ 112 (6 * v + k) / 9 := rfl
theorem rB_2 {τ : mMem} {v k : Nat} : rB τ v k 2 = τ 113 (6 * v + k) := rfl
theorem rB_3 {τ : mMem} {v k : Nat} : rB τ v k 3 = τ 114 (6 * v + k) := rfl
theorem rB_4 {τ : mMem} {v k : Nat} : rB τ v k 4 = τ 115 (6 * v + k) := rfl
theorem rB_8 {τ : mMem} {v k : Nat} : rB τ v k 8 = τ 116 (6 * v + k) := rfl
theorem zr_eye {F p v k : Nat} {π τ : mMem} {lamp which side : Int} (hv : v < 22) (hk : k < 6) (hR : PlR π p τ) (h9 : 0 ≤ π p 9 ∧ π p 9 ≤ 9) (h10 : 0 ≤ π p 10 ∧ π p 10 ≤ 9) (hg : ∀ j, j < 81 → 0 ≤ π (p + 1) j ∧ π (p + 1) j ≤ 9) (hlamp : τ 111 v = lamp) (hl : 0 ≤ lamp ∧ lamp ≤ 9) (h57 : sml (τ 86 57)) (hB : BRr (π p 9) (π p 10) τ v k) (hw : (which = 0 ∧ side = -1) ∨ (which = 1 ∧ side = 1) ∨ (which = 2 ∧ side = 0)) :
    g_X12_eye F (v : Int) (k : Int) which τ = some (xEye π p lamp (rB τ v k) side, τ) := by
  obtain ⟨hcell, b0, b2, b3, b4, b5, b6, b7, b8⟩ := id hB
  have hb := hR.1
  have hs : side * rB τ v k 5 ≤ 2 ∧ -2 ≤ side * rB τ v k 5 := by
    rcases hw with ⟨-, rfl⟩ | ⟨-, rfl⟩ | ⟨-, rfl⟩ <;> omega
  have b27 : g_X12_eye_b27 F (v : Int) (k : Int) (side * rB τ v k 5) τ = some (xEye π p lamp (rB τ v k) side, τ) := by
    unfold g_X12_eye_b27
    rw [mw_id (z := 6 * (v : Int) + (k : Int)) (by omega) (by omega), show (6 * (v : Int) + (k : Int)).toNat = 6 * v + k by omega]
    refine e_t (by omega) (e_t (by omega) ?_)
    refine e_mob (zr_on (v := v) hk hb h57) ?_
    refine e_mob (zr_off hcell b2 b6 (by omega) hR (by omega) (by omega) rfl rfl) ?_
    exact e_mob (zr_seen hv hR h9 h10 hg hlamp hl) rfl
  unfold g_X12_eye
  rcases hw with ⟨rfl, rfl⟩ | ⟨rfl, rfl⟩ | ⟨rfl, rfl⟩
  · refine e_f (by decide) ?_
    refine e_mob (zr_apart (v := v) hk hb h57) ?_
    rw [show -rB τ v k 5 = -1 * rB τ v k 5 by omega]
    exact b27
  · refine e_t (by decide) (e_f (by decide) ?_)
    refine e_mob (zr_apart (v := v) hk hb h57) ?_
    rw [Int.one_mul] at b27
    exact b27
  · refine e_t (by decide) (e_t (by decide) ?_)
    rw [Int.zero_mul] at b27
    exact b27
theorem zr_who {F p v n : Nat} {π τ : mMem} {c r : Int} (hv : v < 22) (hF : 10 ≤ F) (hR : PlR π p τ) (h11 : π p 11 = (n : Int)) (hn : n ≤ 6) (hA : ∀ j, j < n → 0 ≤ τ 112 (6 * v + j) ∧ τ 112 (6 * v + j) ≤ 80) (hc : 0 ≤ c ∧ c ≤ 8) (hr : 0 ≤ r ∧ r ≤ 8) : g_X12_who F (v : Int) (9 * r + c) τ = some (xWho (rB τ v) c r n, τ) := by
  obtain ⟨hb, -, -, q11, -⟩ := hR
  have mbk : mw (τ 86 13) = τ 86 13 := mw_id (by omega) (by omega)
  have key : ∀ (d k fuel : Nat), d + k = n → d < fuel → xWho (rB τ v) c r k = -1 → g_X12_who_h2 F fuel (v : Int) (9 * r + c) (k : Int) τ = some (xWho (rB τ v) c r n, τ) := by
    intro d
    induction d with
    | zero =>
      intro k fuel h1 h2 h3
      obtain ⟨f, rfl⟩ : ∃ f, fuel = f + 1 := ⟨fuel - 1, by omega⟩
      have hkn : k = n := by omega
      subst hkn
      unfold g_X12_who_h2
      rw [mbk, q11, h11]
      refine e_t (by omega) (e_t (Int.le_refl _) ?_)
      rw [h3]
    | succ d ih =>
      intro k fuel h1 h2 h3
      obtain ⟨f, rfl⟩ : ∃ f, fuel = f + 1 := ⟨fuel - 1, by omega⟩
      have hk := hA k (by omega)
      unfold g_X12_who_h2
      rw [mbk, q11, h11]
      refine e_t (by omega) ?_
      refine e_f (by rw [mw_id (by omega) (by omega), mw_id (by omega) (by omega)]; omega) ?_
      rw [mw_id (z := 6 * (v : Int) + (k : Int)) (by omega) (by omega), show (6 * (v : Int) + (k : Int)).toNat = 6 * v + k by omega]
      refine e_t (by omega) ?_
      by_cases m0 : τ 112 (6 * v + k) = 9 * r + c
      · refine e_f (by rw [m0]; exact fun q => q rfl) ?_
        have e := xWho_hit h3 (show rB τ v k 0 = c ∧ rB τ v k 1 = r by rw [rB_0, rB_1, m0]; omega) d
        rw [show k + 1 + d = n by omega] at e
        rw [e]
      · refine e_t (by rw [mw_id (by omega) (by omega), mw_id (by omega) (by omega)]; exact m0) ?_
        exact ih (k + 1) f (by omega) (by omega) (xWho_miss h3 (by rw [rB_0, rB_1]; omega))
  exact key n 0 F (by omega) (by omega) rfl
