/-! LAYER 2: cell -/
theorem zc_isBlack {F o p : Nat} {σ : mMem} {c r : Int} (h20 : σ o 3 = 3 ∨ σ o 3 = 8) (h20n : (σ o 3).toNat = p) (hP : PlC σ p) (hl : 0 ≤ σ o 5 ∧ σ o 5 ≤ 9) (hc : -100 ≤ c ∧ c ≤ 100) (hr : -100 ≤ r ∧ r ≤ 100) : g_X10_isBlack F o c r σ = some (mb (5 ≤ sGrey (σ p 9) (σ p 10) (σ (p + 1)) c r - σ o 5), σ) := by
  have hg : 0 ≤ sGrey (σ p 9) (σ p 10) (σ (p + 1)) c r ∧ sGrey (σ p 9) (σ p 10) (σ (p + 1)) c r ≤ 9 := by
    have h9 := hP.1
    have h10 := hP.2.1
    unfold sGrey
    split
    · rename_i hon
      unfold sOn at hon
      exact hP.2.2.2.1 _ (by omega)
    · omega
  unfold g_X10_isBlack g_X10_isBlack_b23
  rw [h20n]
  refine e_t h20 (e_mob (z_greyAt (by omega) (by omega) hP.1 hP.2.1 hc hr) ?_)
  generalize sGrey (σ p 9) (σ p 10) (σ (p + 1)) c r = g at *
  by_cases c5 : 5 ≤ g - σ o 5
  · rw [mb_t c5]
    exact e_f (by rw [mw_id (by omega) (by omega), mw_id (by omega) (by omega)]; omega) (e_t (by decide) rfl)
  · rw [mb_f c5]
    exact e_t (by rw [mw_id (by omega) (by omega), mw_id (by omega) (by omega)]; omega) (e_t (by decide) rfl)
theorem zr_isBlack {F p v : Nat} {π τ : mMem} {c r lamp : Int} (hv : v < 22) (hR : PlR π p τ) (hP : PlC π p) (hlamp : τ 111 v = lamp) (hl : 0 ≤ lamp ∧ lamp ≤ 9) :
    g_X12_isBlack F (v : Int) (if sOn (π p 9) (π p 10) c r then 9 * r + c else -1) τ = some (mb (5 ≤ sGrey (π p 9) (π p 10) (π (p + 1)) c r - lamp), τ) := by
  have hg : 0 ≤ sGrey (π p 9) (π p 10) (π (p + 1)) c r ∧ sGrey (π p 9) (π p 10) (π (p + 1)) c r ≤ 9 := by
    have h9 := hP.1
    have h10 := hP.2.1
    unfold sGrey
    split
    · rename_i hon
      unfold sOn at hon
      exact hP.2.2.2.1 _ (by omega)
    · omega
  unfold g_X12_isBlack g_X12_isBlack_b15
  refine e_mob (zr_seen hv hR hP.1 hP.2.1 hP.2.2.2.1 hlamp hl) ?_
  generalize sGrey (π p 9) (π p 10) (π (p + 1)) c r = g at *
  by_cases c5 : 5 ≤ g - lamp
  · rw [mb_t c5]
    exact e_f (by rw [mw_id (by omega) (by omega), mw_id (by omega) (by omega)]; omega) (e_t (by decide) rfl)
  · rw [mb_f c5]
    exact e_t (by rw [mw_id (by omega) (by omega), mw_id (by omega) (by omega)]; omega) (e_t (by decide) rfl)
theorem zc_boxOn {F o p n : Nat} {σ : mMem} {c r : Int} (hF : 2000 ≤ F) (h20 : σ o 3 = 3 ∨ σ o 3 = 8) (h20n : (σ o 3).toNat = p) (h11 : σ p 11 = (n : Int)) (hn : n ≤ 6) (hc : sml c) (hr : sml r) (hA : ∀ k, k < n → BR (σ p 9) (σ p 10) (cB σ (o + 1) k)) (h9 : σ p 9 ≤ 9) (h10 : σ p 10 ≤ 9) : g_X10_boxOn F o c r σ = some (xWho (cB σ (o + 1)) c r n, σ) := by
  unfold g_X10_boxOn
  refine e_t h20 ?_
  rw [h20n, h11]
  exact e_mob (z_boxIn (n := n) rfl hn (by omega) hc hr (fun k hk => by have := (hA k hk).1; omega)) rfl
theorem a_cell {F : Nat} {σ : mMem} {p s : Nat} {N x y z : Int} (hF : 2000 ≤ F) (hx : i32 x) (hy : i32 y) (hz : i32 z) (r : Rel σ p s N) : Alk (g_X11_cell F x y z) (g_X12_cell F x y z) σ N := by
  have sm := r.same (N' := N + 1) (by omega) (fun _ _ _ => rfl) (fun _ _ _ => rfl)
  obtain ⟨hp, h08, h08n, h20, h20n, hP, hR, h11, h9, h10, hB, -, hla, h57, h60, -⟩ := r.now
  have hb := hR.1
  obtain ⟨n, en⟩ : ∃ n : Nat, σ p 11 = (n : Int) := ⟨(σ p 11).toNat, by omega⟩
  have ec : ∀ X, (if ¬ mw (mb (sOn (σ p 9) (σ p 10) x y)) = 0 then (if mw z = 0 then (if σ 0 8 = 3 ∨ σ 0 8 = 8 then mob (g_X5_greyAt F (σ 0 8).toNat x y σ) (fun r5 σ6 => some (r5, σ6)) else none) else (if mw z = 1 then (mob (g_X10_isBlack F 20 x y σ) (fun r7 σ8 => if mw r7 = 0 then (g_X11_cell_b67 F 0 σ8) else (g_X11_cell_b67 F 1 σ8))) else (if mw z = 2 then (mob (g_X10_boxOn F 20 x y σ) (fun r9 σ10 => some (r9, σ10))) else (some ((-1), σ))))) else (some ((-1), σ))) = X → g_X11_cell F x y z σ = X := by
    intro X hX
    unfold g_X11_cell
    have hh : g_X5_hasCell F (σ 0 8).toNat x y σ = some (mb (sOn (σ p 9) (σ p 10) x y), σ) := by
      rw [h08n]
      exact z_hasCelli hx hy (by omega) (by omega)
    exact e_t h08 (e_mob hh hX)
  have er : ∀ X, (if ¬ mw (mb (sOn (σ p 9) (σ p 10) x y)) = 0 then (mlet ((9 * y) + x) (fun y3 => if ¬ mw z = 0 then (if ¬ mw z = mw 1 then (if ¬ mw z = mw 2 then (g_X12_cell_b80 F (-1) σ) else (mob (g_X12_who F 0 y3 σ) (fun r4 σ5 => g_X12_cell_b80 F r4 σ5))) else (mob (g_X12_isBlack F 0 y3 σ) (fun r6 σ7 => if mw r6 = 0 then (g_X12_cell_b80 F 0 σ7) else (g_X12_cell_b80 F 1 σ7)))) else (if 0 ≤ mw ((81 * (σ 86 13)) + y3) ∧ mw ((81 * (σ 86 13)) + y3) < (162 : Int) then g_X12_cell_b80 F (σ 90 (mw ((81 * (σ 86 13)) + y3)).toNat) σ else none))) else (some ((-1), σ))) = X → g_X12_cell F x y z σ = X := fun X hX => e_mob (zr_isOni hx hy hR h9 h10) hX
  by_cases hon : sOn (σ p 9) (σ p 10) x y
  · have hon2 := hon
    unfold sOn at hon2
    rw [mb_t hon, mw_id (z := z) (by omega) (by omega)] at ec er
    rw [mw_id (z := 1) (by omega) (by omega), mw_id (z := 2) (by omega) (by omega)] at er
    have eb : g_X12_isBlack F 0 (9 * y + x) σ = some (mb (5 ≤ sGrey (σ p 9) (σ p 10) (σ (p + 1)) x y - σ 20 5), σ) := by
      have := zr_isBlack (F := F) (v := 0) (c := x) (r := y) (by decide) hR hP hla.1 (by omega)
      rw [if_pos hon] at this
      exact this
    have ew : g_X12_who F 0 (9 * y + x) σ = some (xWho (cB σ 21) x y n, σ) := by
      have := zr_who (F := F) (v := 0) (n := n) (c := x) (r := y) (by decide) (by omega) hR en (by omega) (fun j hj => (hB j (by omega)).2.1.1) (by omega) (by omega)
      rw [xWho_congr (A' := cB σ 21) (fun k hk => ⟨((hB k (by omega)).1 0 (by decide)).symm, ((hB k (by omega)).1 1 (by decide)).symm⟩)] at this
      exact this
    by_cases z0 : z = 0
    · refine ⟨sGrey (σ p 9) (σ p 10) (σ (p + 1)) x y, σ, σ, p, s, ec _ (e_t (by decide) (e_t z0 (e_t h08 ?_))), er _ (e_t (by decide) (e_let (e_f (fun q => q z0) ?_))), sm⟩
      · rw [h08n]
        exact e_mob (z_greyAt (by omega) (by omega) h9 h10 (by omega) (by omega)) rfl
      · rw [mw_id (z := 81 * σ 86 13 + (9 * y + x)) (by omega) (by omega), show (81 * σ 86 13 + (9 * y + x)).toNat = 81 * (σ 86 13).toNat + (y * 9 + x).toNat by omega, hR.2.2.2.2.1 _ (by omega)]
        refine e_t (by omega) ?_
        unfold sGrey
        rw [if_pos hon]
        rfl
    · by_cases z1 : z = 1
      · have b01 := mb_rng (5 ≤ sGrey (σ p 9) (σ p 10) (σ (p + 1)) x y - σ 20 5)
        refine ⟨mb (5 ≤ sGrey (σ p 9) (σ p 10) (σ (p + 1)) x y - σ 20 5), σ, σ, p, s, ec _ (e_t (by decide) (e_f z0 (e_t z1 (e_mob (zc_isBlack h20 h20n hP (by omega) (by omega) (by omega)) ?_)))), er _ (e_t (by decide) (e_let (e_t z0 (e_f (fun q => q z1) (e_mob eb ?_))))), sm⟩
        · rcases (by omega : mb (5 ≤ sGrey (σ p 9) (σ p 10) (σ (p + 1)) x y - σ 20 5) = 0 ∨ mb (5 ≤ sGrey (σ p 9) (σ p 10) (σ (p + 1)) x y - σ 20 5) = 1) with e | e <;> rw [e]
          · exact e_t (by decide) rfl
          · exact e_f (by decide) rfl
        · rcases (by omega : mb (5 ≤ sGrey (σ p 9) (σ p 10) (σ (p + 1)) x y - σ 20 5) = 0 ∨ mb (5 ≤ sGrey (σ p 9) (σ p 10) (σ (p + 1)) x y - σ 20 5) = 1) with e | e <;> rw [e]
          · exact e_t (by decide) rfl
          · exact e_f (by decide) rfl
      · by_cases z2 : z = 2
        · exact ⟨xWho (cB σ 21) x y n, σ, σ, p, s, ec _ (e_t (by decide) (e_f z0 (e_f z1 (e_t z2 (e_mob (zc_boxOn hF h20 h20n en (by omega) (by omega) (by omega) (fun k hk => (hB k (by omega)).2.2) h9.2 h10.2) rfl))))), er _ (e_t (by decide) (e_let (e_t z0 (e_t z1 (e_f (fun q => q z2) (e_mob ew rfl)))))), sm⟩
        · exact ⟨-1, σ, σ, p, s, ec _ (e_t (by decide) (e_f z0 (e_f z1 (e_f z2 rfl)))), er _ (e_t (by decide) (e_let (e_t z0 (e_t z1 (e_t z2 rfl))))), sm⟩
  · rw [mb_f hon] at ec er
    exact ⟨-1, σ, σ, p, s, ec _ (e_f (by decide) rfl), er _ (e_f (by decide) rfl), sm⟩
