/-! LAYER 2: box, sees, cell -/
theorem z_hasCelli {F p : Nat} {σ : mMem} {c r : Int} (hc : i32 c) (hr : i32 r) (h1 : i32 (σ p 9)) (h2 : i32 (σ p 10)) : g_X5_hasCell F p c r σ = some (mb (sOn (σ p 9) (σ p 10) c r), σ) := by
  unfold g_X5_hasCell g_X5_hasCell_b29 g_X5_hasCell_b28 g_X5_hasCell_b29
  rw [mw_id (z := c) (by omega) (by omega), mw_id (z := r) (by omega) (by omega), mw_id (z := σ p 9) (by omega) (by omega), mw_id (z := σ p 10) (by omega) (by omega)]
  by_cases a1 : c < 0
  · rw [mb_f (by unfold sOn; omega)]; exact e_t a1 (e_t (by decide) rfl)
  · by_cases a2 : σ p 9 ≤ c
    · rw [mb_f (by unfold sOn; omega)]; exact e_f a1 (e_t a2 (e_t (by decide) rfl))
    · by_cases a3 : r < 0
      · rw [mb_f (by unfold sOn; omega)]; exact e_f a1 (e_f a2 (e_t a3 (e_t (by decide) rfl)))
      · by_cases a4 : σ p 10 ≤ r
        · rw [mb_f (by unfold sOn; omega)]; exact e_f a1 (e_f a2 (e_f a3 (e_t a4 (e_t (by decide) rfl))))
        · rw [mb_t (by unfold sOn; omega)]; exact e_f a1 (e_f a2 (e_f a3 (e_f a4 (e_t (by decide) rfl))))
theorem zr_isOni {F p : Nat} {π τ : mMem} {c r : Int} (hc : i32 c) (hr : i32 r) (hR : PlR π p τ) (h1 : 0 ≤ π p 9 ∧ π p 9 ≤ 9) (h2 : 0 ≤ π p 10 ∧ π p 10 ≤ 9) : g_X12_isOn F c r τ = some (mb (sOn (π p 9) (π p 10) c r), τ) := by
  obtain ⟨hb, q9, q10, -⟩ := hR
  have mbk : mw (τ 86 13) = τ 86 13 := mw_id (by omega) (by omega)
  unfold g_X12_isOn g_X12_isOn_b42 g_X12_isOn_b43
  rw [mbk]
  refine e_t (by omega) ?_
  rw [q9]
  refine e_mob (zr_isi (by omega)) ?_
  by_cases a1 : 0 ≤ c ∧ c ≤ π p 9 - 1
  · rw [mb_t a1]
    refine e_f (by decide) ?_
    rw [mbk]
    refine e_t (by omega) ?_
    rw [q10]
    refine e_mob (zr_isi (by omega)) ?_
    by_cases a2 : 0 ≤ r ∧ r ≤ π p 10 - 1
    · rw [mb_t a2, mb_t (show sOn (π p 9) (π p 10) c r by unfold sOn; omega)]
      exact e_f (by decide) (e_t (by decide) rfl)
    · rw [mb_f a2, mb_f (show ¬ sOn (π p 9) (π p 10) c r by unfold sOn; omega)]
      exact e_t (by decide) (e_t (by decide) rfl)
  · rw [mb_f a1, mb_f (show ¬ sOn (π p 9) (π p 10) c r by unfold sOn; omega)]
    exact e_t (by decide) (e_t (by decide) rfl)
theorem zc_hasBox {F p : Nat} {σ : mMem} {x : Int} (hx : i32 x) (h : 0 ≤ σ p 11 ∧ σ p 11 ≤ 6) : g_X5_hasBox F p x σ = some (mb (0 ≤ x ∧ x < σ p 11), σ) := by
  unfold g_X5_hasBox g_X5_hasBox_b22 g_X5_hasBox_b23
  rw [mw_id (z := x) (by omega) (by omega), mw_id (z := σ p 11) (by omega) (by omega), mw_id (z := 6) (by omega) (by omega)]
  by_cases c : 0 ≤ x ∧ x < σ p 11
  · rw [mb_t c]
    exact e_f (by omega) (e_f (by omega) (e_f (by omega) (e_t (by decide) rfl)))
  · rw [mb_f c]
    by_cases c0 : x < 0
    · exact e_t c0 (e_t (by decide) rfl)
    · exact e_f c0 (e_t (by omega) (e_t (by decide) rfl))
theorem zr_isBox {F p : Nat} {π τ : mMem} {x : Int} (hx : i32 x) (hR : PlR π p τ) (h : 0 ≤ π p 11 ∧ π p 11 ≤ 6) : g_X12_isBox F x τ = some (mb (0 ≤ x ∧ x < π p 11), τ) := by
  obtain ⟨hb, -, -, q11, -⟩ := hR
  unfold g_X12_isBox g_X12_isBox_b21 g_X12_isBox_b22
  rw [mw_id (z := x) (by omega) (by omega), mw_id (z := τ 86 13) (by omega) (by omega), q11, mw_id (z := π p 11) (by omega) (by omega)]
  by_cases c : 0 ≤ x ∧ x < π p 11
  · rw [mb_t c]
    exact e_f (by omega) (e_t (by omega) (e_f (by omega) (e_t (by decide) rfl)))
  · rw [mb_f c]
    by_cases c0 : x < 0
    · exact e_t c0 (e_t (by decide) rfl)
    · exact e_f c0 (e_t (by omega) (e_t (by omega) (e_t (by decide) rfl)))
/-- what is at hand of two that stand alike -/
theorem Rel.now {σ : mMem} {p s : Nat} {N : Int} (r : Rel σ p s N) : (p = 3 ∨ p = 8) ∧ (σ 0 8 = 3 ∨ σ 0 8 = 8) ∧ (σ 0 8).toNat = p ∧ (σ 20 3 = 3 ∨ σ 20 3 = 8) ∧ (σ 20 3).toNat = p ∧ PlC σ p ∧ PlR σ p σ ∧ (0 ≤ σ p 11 ∧ σ p 11 ≤ 6) ∧ (0 ≤ σ p 9 ∧ σ p 9 ≤ 9) ∧ (0 ≤ σ p 10 ∧ σ p 10 ≤ 9) ∧ (∀ k, k < (σ p 11).toNat → BEq (cB σ 21 k) (rB σ 0 k) ∧ BRr (σ p 9) (σ p 10) σ 0 k ∧ BR (σ p 9) (σ p 10) (cB σ 21 k)) ∧ (σ 110 0 = σ 20 4 ∧ 0 ≤ σ 20 4 ∧ σ 20 4 ≤ 999) ∧ (σ 111 0 = σ 20 5 ∧ 0 ≤ σ 20 5 ∧ σ 20 5 ≤ 9) ∧ σ 86 57 = -1 ∧ σ 86 60 = -1 ∧ σ 86 62 = 0 := by
  obtain ⟨r1, r2, r3, r4, ⟨a1, ⟨a2, a3, a4⟩, a5, a6, -⟩, ⟨⟨b1, b2, b3, -⟩, b5, b6, b7⟩, -⟩ := r
  refine ⟨by omega, by omega, by omega, by omega, by omega, a5, a6, a5.2.2.1, a5.1, a5.2.1, fun k hk => ?_, b2, b3, b5, b6, b7⟩
  have := b1 k hk
  exact ⟨this.1, this.2, this.2.2.congr this.1⟩
theorem a_box {F : Nat} {σ : mMem} {p s : Nat} {N x y : Int} (hx : i32 x) (hy : i32 y) (r : Rel σ p s N) : Alk (g_X11_box F x y) (g_X12_box F x y) σ N := by
  have sm := r.same (N' := N + 1) (by omega) (fun _ _ _ => rfl) (fun _ _ _ => rfl)
  obtain ⟨hp, h08, h08n, h20, h20n, hP, hR, h11, h9, h10, hB, -, -, h57, h60, -⟩ := r.now
  have hb := hR.1
  have ec : ∀ X, (if mw (mb (0 ≤ x ∧ x < σ p 11)) = 0 then (g_X11_box_b21 F σ) else (if mw y < 0 then (g_X11_box_b21 F σ) else (if mw y ≤ mw 7 then (mob (g_X10_of F 20 x y σ) (fun r4 σ5 => some (r4, σ5))) else (g_X11_box_b21 F σ)))) = X → g_X11_box F x y σ = X := by
    intro X hX
    unfold g_X11_box
    rw [h08n]
    exact e_t h08 (e_mob (zc_hasBox hx h11) hX)
  by_cases c : 0 ≤ x ∧ x < σ p 11
  · obtain ⟨k, ek⟩ : ∃ k : Nat, x = (k : Int) := ⟨x.toNat, by omega⟩
    subst ek
    have hk6 : k < 6 := by omega
    have bk := (hB k (by omega)).1
    rw [mb_t c, mw_id (z := y) (by omega) (by omega), mw_id (z := 7) (by omega) (by omega)] at ec
    by_cases cy : 0 ≤ y ∧ y ≤ 7
    · refine ⟨σ 21 (10 * k + y.toNat), σ, σ, p, s, ec _ (e_f (by decide) (e_f (by omega) (e_t (by omega) (e_mob (z_of (by omega)) ?_)))), ?_, sm⟩
      · rw [show ((k : Int) * 10 + y).toNat = 10 * k + y.toNat by omega]
      · unfold g_X12_box
        refine e_mob (zr_isBox hx hR h11) ?_
        have n57 : ¬ (k : Int) = -1 := by omega
        have i6 : mw (6 * σ 86 13 + (k : Int)) = 6 * σ 86 13 + (k : Int) := mw_id (by omega) (by omega)
        have i6n : (6 * σ 86 13 + (k : Int)).toNat = 6 * (σ 86 13).toNat + k := by omega
        rw [mb_t c, mwN (i := k) (by omega), mw_id (z := y) (by omega) (by omega), i6, i6n]
        have hk0 : 6 * 0 + k = k := by omega
        have kR : 0 ≤ mw (k : Int) ∧ mw (k : Int) < 132 := mwR (by omega) (by decide)
        have b0 := (hB k (by omega)).2.1.1
        rw [hk0] at b0
        clear i6
        refine e_t (by decide) ?_
        rcases (by omega : y = 0 ∨ y = 1 ∨ y = 2 ∨ y = 3 ∨ y = 4 ∨ y = 5 ∨ y = 6 ∨ y = 7) with rfl | rfl | rfl | rfl | rfl | rfl | rfl | rfl
        · have b := bk 0 (by decide)
          rw [rB_0, hk0] at b
          refine e_t rfl (e_t kR (e_f (by decide) ?_))
          rw [show (mw (σ 112 k)).tmod (mw 9) = σ 112 k % 9 by simp (disch := omega) only [mw_id, mwl_id, mtmod, mtdiv], ← b]; rfl
        · have b := bk 1 (by decide)
          rw [rB_1, hk0] at b
          refine e_f (by decide) (e_t rfl (e_t kR (e_f (by decide) ?_)))
          rw [show (mw (σ 112 k)).tdiv (mw 9) = σ 112 k / 9 by simp (disch := omega) only [mw_id, mwl_id, mtmod, mtdiv], ← b]; rfl
        · have b := bk 2 (by decide)
          rw [rB_2, hk0] at b
          refine e_f (by decide) (e_f (by decide) (e_t rfl (e_t kR ?_)))
          rw [← b]; rfl
        · have b := bk 3 (by decide)
          rw [rB_3, hk0] at b
          refine e_f (by decide) (e_f (by decide) (e_f (by decide) (e_t rfl (e_t kR ?_))))
          rw [← b]; rfl
        · have b := bk 4 (by decide)
          rw [rB_4, hk0] at b
          refine e_f (by decide) (e_f (by decide) (e_f (by decide) (e_f (by decide) (e_t rfl (e_t kR ?_)))))
          rw [← b]; rfl
        · have b := bk 5 (by decide)
          unfold rB at b
          simp only [Nat.reduceEqDiff, if_false, if_true, h57, if_neg n57] at b
          refine e_f (by decide) (e_f (by decide) (e_f (by decide) (e_f (by decide) (e_f (by decide) (e_t rfl (e_t (by omega) ?_))))))
          rw [← b]; rfl
        · have b := bk 6 (by decide)
          unfold rB at b
          simp only [Nat.reduceEqDiff, if_false, if_true, h57, if_neg n57] at b
          refine e_f (by decide) (e_f (by decide) (e_f (by decide) (e_f (by decide) (e_f (by decide) (e_f (by decide) (e_t rfl (e_t (by omega) ?_)))))))
          rw [← b]; rfl
        · have b := bk 7 (by decide)
          unfold rB at b
          simp only [Nat.reduceEqDiff, if_false, if_true, h60, if_neg n57] at b
          refine e_f (by decide) (e_f (by decide) (e_f (by decide) (e_f (by decide) (e_f (by decide) (e_f (by decide) (e_f (by decide) (e_t rfl (e_t (by omega) ?_))))))))
          rw [← b]; rfl
    · refine ⟨-1, σ, σ, p, s, ec _ (e_f (by decide) ?_), ?_, sm⟩
      · by_cases c0 : y < 0
        · exact e_t c0 rfl
        · exact e_f c0 (e_f (by omega) rfl)
      · unfold g_X12_box
        refine e_mob (zr_isBox hx hR h11) ?_
        rw [mb_t c, mw_id (z := y) (by omega) (by omega)]
        exact e_t (by decide) (e_f (by omega) (e_f (by omega) (e_f (by omega) (e_f (by omega) (e_f (by omega) (e_f (by omega) (e_f (by omega) (e_f (by omega) rfl))))))))
  · rw [mb_f c] at ec
    refine ⟨-1, σ, σ, p, s, ec _ (e_t (by decide) rfl), ?_, sm⟩
    unfold g_X12_box
    refine e_mob (zr_isBox hx hR h11) ?_
    rw [mb_f c]
    exact e_f (by decide) rfl
theorem a_sees {F : Nat} {σ : mMem} {p s : Nat} {N x y : Int} (hx : i32 x) (hy : i32 y) (r : Rel σ p s N) : Alk (g_X11_sees F x y) (g_X12_sees F x y) σ N := by
  have sm := r.same (N' := N + 1) (by omega) (fun _ _ _ => rfl) (fun _ _ _ => rfl)
  obtain ⟨hp, h08, h08n, h20, h20n, hP, hR, h11, h9, h10, hB, -, hla, h57, h60, -⟩ := r.now
  have ec : ∀ X, (if ¬ mw (mb (0 ≤ x ∧ x < σ p 11)) = 0 then (if mw y = 0 then (mob (g_X10_greySeen F 20 x (-1) σ) (fun r4 σ5 => some (r4, σ5))) else (if mw y = 1 then (mob (g_X10_greySeen F 20 x 1 σ) (fun r6 σ7 => some (r6, σ7))) else (if mw y = 2 then (mob (g_X10_greySeen F 20 x 0 σ) (fun r8 σ9 => some (r8, σ9))) else (some ((-1), σ))))) else (some ((-1), σ))) = X → g_X11_sees F x y σ = X := by
    intro X hX
    unfold g_X11_sees
    rw [h08n]
    exact e_t h08 (e_mob (zc_hasBox hx h11) hX)
  have er : ∀ X, (if mw (mb (0 ≤ x ∧ x < σ p 11)) = 0 then (g_X12_sees_b27 F σ) else (mob (g_X12_is F y 0 2 σ) (fun r3 σ4 => if mw r3 = 0 then (g_X12_sees_b27 F σ4) else (mob (g_X12_eye F 0 x y σ4) (fun r5 σ6 => g_X12_sees_b28 F r5 σ6))))) = X → g_X12_sees F x y σ = X := fun X hX => e_mob (zr_isBox hx hR h11) hX
  by_cases c : 0 ≤ x ∧ x < σ p 11
  · obtain ⟨k, ek⟩ : ∃ k : Nat, x = (k : Int) := ⟨x.toNat, by omega⟩
    subst ek
    rw [mb_t c, mw_id (z := y) (by omega) (by omega)] at ec
    rw [mb_t c] at er
    obtain ⟨bk1, bk2, bk3⟩ := hB k (by omega)
    by_cases cy : 0 ≤ y ∧ y ≤ 2
    · obtain ⟨side, hs⟩ : ∃ side : Int, (y = 0 ∧ side = -1) ∨ (y = 1 ∧ side = 1) ∨ (y = 2 ∧ side = 0) := by
        rcases (by omega : y = 0 ∨ y = 1 ∨ y = 2) with rfl | rfl | rfl
        · exact ⟨-1, by decide⟩
        · exact ⟨1, by decide⟩
        · exact ⟨0, by decide⟩
      have g1 : g_X10_greySeen F 20 (k : Int) side σ = some (xEye σ p (σ 20 5) (cB σ 21 k) side, σ) := z_greySeen (by omega) h20 h20n hP bk3 (by omega) (by omega)
      have g2 : g_X12_eye F 0 (k : Int) y σ = some (xEye σ p (σ 20 5) (cB σ 21 k) side, σ) := by
        rw [xEye_c PEq.rfl' bk1]
        exact zr_eye (v := 0) (by decide) (by omega) hR h9 h10 hP.2.2.2.1 hla.1 (by omega) (by omega) bk2 hs
      refine ⟨xEye σ p (σ 20 5) (cB σ 21 k) side, σ, σ, p, s, ec _ (e_t (by decide) ?_), er _ (e_f (by decide) (e_mob (zr_isi (by omega)) ?_)), sm⟩
      · rcases hs with ⟨rfl, rfl⟩ | ⟨rfl, rfl⟩ | ⟨rfl, rfl⟩
        · exact e_t rfl (e_mob g1 rfl)
        · exact e_f (by decide) (e_t rfl (e_mob g1 rfl))
        · exact e_f (by decide) (e_f (by decide) (e_t rfl (e_mob g1 rfl)))
      · rw [mb_t cy]
        exact e_f (by decide) (e_mob g2 rfl)
    · refine ⟨-1, σ, σ, p, s, ec _ (e_t (by decide) (e_f (by omega) (e_f (by omega) (e_f (by omega) rfl)))), er _ (e_f (by decide) (e_mob (zr_isi (by omega)) ?_)), sm⟩
      rw [mb_f cy]
      exact e_t (by decide) rfl
  · rw [mb_f c] at ec er
    exact ⟨-1, σ, σ, p, s, ec _ (e_f (by decide) rfl), er _ (e_t (by decide) rfl), sm⟩
