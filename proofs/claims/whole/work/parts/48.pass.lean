/-! LAYER 2: the words depend on a plan's rows and a box's fields alone -/
def PEq (π π' : mMem) (p : Nat) : Prop := π p = π' p ∧ π (p + 1) = π' (p + 1) ∧ π (p + 4) = π' (p + 4)
def BEq (B B' : Nat → Int) : Prop := ∀ f, f < 9 → B f = B' f
section CG
variable {π π' : mMem} {p : Nat} {lamp step : Int} {A A' : Nat → Nat → Int} {B B' : Nat → Int}
theorem xEye_c (hp : PEq π π' p) (hB : BEq B B') (s : Int) : xEye π p lamp B s = xEye π' p lamp B' s := by
  unfold xEye
  rw [hp.1, hp.2.1, hB 0 (by omega), hB 1 (by omega), hB 2 (by omega), hB 5 (by omega), hB 6 (by omega)]
theorem xLost_c (hp : PEq π π' p) (hB : BEq B B') : xLost π p lamp B = xLost π' p lamp B' := by
  unfold xLost
  rw [xEye_c hp hB, xEye_c hp hB, xEye_c hp hB, hB 4 (by omega)]
theorem xKn_c (hp : PEq π π' p) (hB : BEq B B') (t : Int) : xKn π p lamp step B t = xKn π' p lamp step B' t := by
  unfold xKn
  rw [xEye_c hp hB, xEye_c hp hB, xEye_c hp hB, hB 3 (by omega), xLost_c hp hB]
theorem xBy_c (hp : PEq π π' p) (hB : BEq B B') : xBy π p lamp step B = xBy π' p lamp step B' := by
  unfold xBy
  rw [xKn_c hp hB, xEye_c hp hB, xEye_c hp hB, hp.1, hp.2.2]
theorem xWay_c (hB : BEq B B') (z : Int) : xWay B z = xWay B' z := by
  unfold xWay
  rw [hB 2 (by omega)]
theorem xGoV_c (hp : PEq π π' p) (hB : BEq B B') : xGoV π p lamp step B = xGoV π' p lamp step B' := by
  unfold xGoV
  rw [xBy_c hp hB, xKn_c hp hB, hp.1, hp.2.2]
theorem xC_c (hp : PEq π π' p) (hB : BEq B B') : xC π p lamp step B = xC π' p lamp step B' := by
  unfold xC
  rw [xBy_c hp hB, xWay_c hB, hB 0 (by omega)]
theorem xR_c (hp : PEq π π' p) (hB : BEq B B') : xR π p lamp step B = xR π' p lamp step B' := by
  unfold xR
  rw [xBy_c hp hB, xWay_c hB, hB 1 (by omega)]
theorem xFree_c (hp : PEq π π' p) (hA : ∀ k, k < (π p 11).toNat → A k 0 = A' k 0 ∧ A k 1 = A' k 1) {c r : Int} : xFree π p A c r ↔ xFree π' p A' c r := by
  unfold xFree
  rw [xWho_congr hA, hp.1]
theorem xWent_c (hp : PEq π π' p) (hA : ∀ k, k < (π p 11).toNat → A k 0 = A' k 0 ∧ A k 1 = A' k 1) (hB : BEq B B') : xWent π p lamp step A B ↔ xWent π' p lamp step A' B' := by
  unfold xWent
  rw [xGoV_c hp hB, xC_c hp hB, xR_c hp hB, xFree_c hp hA]
theorem xBlk_c (hp : PEq π π' p) (hA : ∀ k, k < (π p 11).toNat → A k 0 = A' k 0 ∧ A k 1 = A' k 1) (hB : BEq B B') : xBlk π p lamp step A B ↔ xBlk π' p lamp step A' B' := by
  unfold xBlk
  rw [xGoV_c hp hB, xC_c hp hB, xR_c hp hB, xFree_c hp hA]
theorem xNew_c (hp : PEq π π' p) (hA : ∀ k, k < (π p 11).toNat → A k 0 = A' k 0 ∧ A k 1 = A' k 1) (hB : BEq B B') : BEq (xNew π p lamp step A B) (xNew π' p lamp step A' B') := by
  intro f hf
  unfold xNew
  simp only [xWent_c hp hA hB, xC_c hp hB, xR_c hp hB, xBy_c hp hB, xWay_c hB, xLost_c hp hB, hB 0 (by omega), hB 1 (by omega), hB 3 (by omega), hB 7 (by omega), hB 8 (by omega), hB f hf]
end CG
/-! the class's box -/
theorem z_moveBox {F o k n p : Nat} {σ : mMem} {lamp step : Int} (hk : k < n) (hn : n ≤ 6) (ho : 20 ≤ o) (hF : 2000 ≤ F) (hp : σ o 3 = 3 ∨ σ o 3 = 8) (hp2 : (σ o 3).toNat = p) (hP : PlC σ p) (h11 : σ p 11 = (n : Int)) (hA : ∀ j, j < n → BR (σ p 9) (σ p 10) (cB σ (o + 1) j)) (hlamp : σ o 5 = lamp) (hstep : σ o 4 = step) (hl : 0 ≤ lamp ∧ lamp ≤ 9) (hst : 0 ≤ step ∧ step ≤ 1000) :
    ∃ σ', g_X10_moveBox F o (k : Int) σ = some (0, σ') ∧ (∀ q, q ≠ o → q ≠ o + 1 → q ≠ o + 2 → q ≠ o + 4 → q ≠ o + 5 → σ' q = σ q) ∧ BEq (cB σ' (o + 1) k) (xNew σ p lamp step (cB σ (o + 1)) (cB σ (o + 1) k)) ∧ σ' (o + 1) (10 * k + 9) = σ (o + 1) (10 * k + 9) + mb (xBlk σ p lamp step (cB σ (o + 1)) (cB σ (o + 1) k)) ∧ (∀ j, ¬ (10 * k ≤ j ∧ j < 10 * k + 10) → σ' (o + 1) j = σ (o + 1) j) ∧
      (∀ j, σ' (o + 2) j = if j = k ∧ xWent σ p lamp step (cB σ (o + 1)) (cB σ (o + 1) k) then 1 else σ (o + 2) j) ∧ (∀ j, σ' o j = if j = 6 then σ o 6 + mb (xWent σ p lamp step (cB σ (o + 1)) (cB σ (o + 1) k)) else if j = 7 then σ o 7 + mb (xBlk σ p lamp step (cB σ (o + 1)) (cB σ (o + 1) k)) else σ o j) := by
  have hk6 : k < 6 := by omega
  have hBk := hA k hk
  obtain ⟨p1, p2, p3, p4, p5, p6, p7⟩ := id hP
  obtain ⟨b0, b2, b3, b4, b5, b6, b7, b8⟩ := id hBk
  have eL := xEye_rng (B := cB σ (o + 1) k) (side := -1) hP hl
  have eR := xEye_rng (B := cB σ (o + 1) k) (side := 1) hP hl
  have eM := xEye_rng (B := cB σ (o + 1) k) (side := 0) hP hl
  have hw1 := xWay_rng (B := cB σ (o + 1) k) (z := xBy σ p lamp step (cB σ (o + 1) k)) b2
  have hlo := xLost_rng (π := σ) (p := p) (lamp := lamp) (B := cB σ (o + 1) k) b4
  obtain ⟨σ1, f1, f2, f3⟩ := z_b70 (F := F) (o := o) (k := k) (p := p) (σ := σ) (lamp := lamp) (step := step) ho hk6 hF hp hp2 hP hlamp hstep hl hst b2 b3 b4
  have head : g_X10_moveBox F o (k : Int) σ = (if xGoV σ p lamp step (cB σ (o + 1) k) ≠ 0 then g_X10_moveBox_b267 F o (k : Int) σ1 else g_X10_moveBox_b272 F o (k : Int) σ1) := by
    rw [← f1]
    unfold g_X10_moveBox
    have gs : ∀ s : Int, -1 ≤ s → s ≤ 1 → g_X10_greySeen F o (k : Int) s σ = some (xEye σ p lamp (cB σ (o + 1) k) s, σ) := by
      intro s s1 s2
      rw [z_greySeen hk6 hp hp2 hP hBk (by rw [hlamp]; exact hl) ⟨s1, s2⟩, hlamp]
    refine e_mob (gs (-1) (by omega) (by omega)) (e_mob (gs 1 (by omega) (by omega)) (e_mob (gs 0 (by omega) (by omega)) ?_))
    have l1 : g_X10_moveBox_b38 F o (k : Int) (xEye σ p lamp (cB σ (o + 1) k) (-1)) (xEye σ p lamp (cB σ (o + 1) k) 1) (xEye σ p lamp (cB σ (o + 1) k) 0) σ = g_X10_moveBox_b70 F o (k : Int) (xEye σ p lamp (cB σ (o + 1) k) (-1)) (xEye σ p lamp (cB σ (o + 1) k) 1) (xEye σ p lamp (cB σ (o + 1) k) 0) (k : Int) 4 0 σ := by
      unfold g_X10_moveBox_b38 g_X10_moveBox_b43
      exact e_f (by decide) rfl
    unfold xLost
    generalize xEye σ p lamp (cB σ (o + 1) k) (-1) = L at *
    generalize xEye σ p lamp (cB σ (o + 1) k) 1 = Rr at *
    generalize xEye σ p lamp (cB σ (o + 1) k) 0 = M at *
    by_cases c1 : 5 ≤ L
    · rw [if_pos (show 5 ≤ L ∨ 5 ≤ Rr ∨ 5 ≤ M from Or.inl c1)]
      exact e_t (by (try simp (disch := omega) only [mw_id, mwl_id, mw_mb, mb_0, mb_1]) <;> omega) l1
    · by_cases c2 : 5 ≤ Rr
      · rw [if_pos (show 5 ≤ L ∨ 5 ≤ Rr ∨ 5 ≤ M from Or.inr (Or.inl c2))]
        exact e_f (by (try simp (disch := omega) only [mw_id, mwl_id, mw_mb, mb_0, mb_1]) <;> omega) (e_t (by (try simp (disch := omega) only [mw_id, mwl_id, mw_mb, mb_0, mb_1]) <;> omega) l1)
      · by_cases c3 : 5 ≤ M
        · rw [if_pos (show 5 ≤ L ∨ 5 ≤ Rr ∨ 5 ≤ M from Or.inr (Or.inr c3))]
          exact e_f (by (try simp (disch := omega) only [mw_id, mwl_id, mw_mb, mb_0, mb_1]) <;> omega) (e_f (by (try simp (disch := omega) only [mw_id, mwl_id, mw_mb, mb_0, mb_1]) <;> omega) (e_f (by (try simp (disch := omega) only [mw_id, mwl_id, mw_mb, mb_0, mb_1]) <;> omega) l1))
        · rw [if_neg (show ¬ (5 ≤ L ∨ 5 ≤ Rr ∨ 5 ≤ M) by omega)]
          refine e_f (by (try simp (disch := omega) only [mw_id, mwl_id, mw_mb, mb_0, mb_1]) <;> omega) (e_f (by (try simp (disch := omega) only [mw_id, mwl_id, mw_mb, mb_0, mb_1]) <;> omega) (e_t (by (try simp (disch := omega) only [mw_id, mwl_id, mw_mb, mb_0, mb_1]) <;> omega) ?_))
          unfold g_X10_moveBox_b43
          refine e_t (by decide) ?_
          refine e_mob (zo_4 hk6) ?_
          dsimp only [cB] at b4
          exact e_mob (z_min (by omega)) rfl
  have s1B : ∀ j, j ≠ 2 → j ≠ 4 → j < 10 → cB σ1 (o + 1) k j = cB σ (o + 1) k j := by
    intro j h2 h4 h10
    dsimp only [cB]
    rw [f3, mup1_ne (by omega), mup1_ne (by omega)]
  have s1B2 : cB σ1 (o + 1) k 2 = xWay (cB σ (o + 1) k) (xBy σ p lamp step (cB σ (o + 1) k)) := by
    dsimp only [cB]
    rw [f3, mup1_at rfl]
  have s1B4 : cB σ1 (o + 1) k 4 = xLost σ p lamp (cB σ (o + 1) k) := by
    dsimp only [cB]
    rw [f3, mup1_ne (by omega), mup1_at rfl]
  have s1o : ∀ j, ¬ (10 * k ≤ j ∧ j < 10 * k + 10) → σ1 (o + 1) j = σ (o + 1) j := by
    intro j hj
    rw [f3, mup1_ne (by omega), mup1_ne (by omega)]
  have s1A : ∀ j, cB σ1 (o + 1) j 0 = cB σ (o + 1) j 0 ∧ cB σ1 (o + 1) j 1 = cB σ (o + 1) j 1 := by
    intro j
    dsimp only [cB]
    rw [f3]
    constructor <;> rw [mup1_ne (by omega), mup1_ne (by omega)]
  have hso : σ1 o = σ o := f2 _ (by omega) (by omega) (by omega)
  have hsp : σ1 p = σ p := f2 _ (by omega) (by omega) (by omega)
  -- the end: power
  have e272 : ∀ τ : mMem, g_X10_moveBox_b272 F o (k : Int) τ = some (0, mup τ (o + 1) (10 * k + 3) (τ (o + 1) (10 * k + 3) - 1)) := by
    intro τ
    unfold g_X10_moveBox_b272
    exact e_mob (zo_3 hk6) (e_mob (zs_3 hk6) rfl)
  rw [head]
  by_cases hg : xGoV σ p lamp step (cB σ (o + 1) k) = 0
  · have nW : ¬ xWent σ p lamp step (cB σ (o + 1)) (cB σ (o + 1) k) := fun q => q.1 hg
    have nK : ¬ xBlk σ p lamp step (cB σ (o + 1)) (cB σ (o + 1) k) := fun q => q.1 hg
    rw [if_neg (fun q => q hg), e272]
    refine ⟨_, rfl, fun q q0 q1 q2 q4 q5 => ?_, ?_, ?_, ?_, ?_, ?_⟩
    · rw [mup_off q1, f2 q q1 q4 q5]
    · intro f hf
      show mup σ1 (o + 1) (10 * k + 3) (σ1 (o + 1) (10 * k + 3) - 1) (o + 1) (10 * k + f) = _
      rw [mup_row]
      unfold xNew
      rcases (by omega : f = 0 ∨ f = 1 ∨ f = 2 ∨ f = 3 ∨ f = 4 ∨ f = 5 ∨ f = 6 ∨ f = 7 ∨ f = 8) with rfl | rfl | rfl | rfl | rfl | rfl | rfl | rfl | rfl
      · rw [mup1_ne (by omega), if_pos rfl, if_neg nW]; exact s1B 0 (by decide) (by decide) (by decide)
      · rw [mup1_ne (by omega), if_neg (by decide), if_pos rfl, if_neg nW]; exact s1B 1 (by decide) (by decide) (by decide)
      · rw [mup1_ne (by omega), if_neg (by decide), if_neg (by decide), if_pos rfl, if_neg (fun q => nW q.1)]; exact s1B2
      · rw [mup1_at rfl, if_neg (by decide), if_neg (by decide), if_neg (by decide), if_pos rfl]; rw [show σ1 (o + 1) (10 * k + 3) = cB σ (o + 1) k 3 from s1B 3 (by decide) (by decide) (by decide)]
      · rw [mup1_ne (by omega), if_neg (by decide), if_neg (by decide), if_neg (by decide), if_neg (by decide), if_pos rfl]; exact s1B4
      · rw [mup1_ne (by omega)]; simp only [Nat.reduceEqDiff, if_false]; exact s1B 5 (by decide) (by decide) (by decide)
      · rw [mup1_ne (by omega)]; simp only [Nat.reduceEqDiff, if_false]; exact s1B 6 (by decide) (by decide) (by decide)
      · rw [mup1_ne (by omega)]; simp only [Nat.reduceEqDiff, if_false]; exact s1B 7 (by decide) (by decide) (by decide)
      · rw [mup1_ne (by omega), if_neg (by decide), if_neg (by decide), if_neg (by decide), if_neg (by decide), if_neg (by decide), if_pos rfl, if_neg nW]; exact s1B 8 (by decide) (by decide) (by decide)
    · rw [mup_row, mup1_ne (by omega), mb_f nK, Int.add_zero]
      exact s1B 9 (by decide) (by decide) (by decide)
    · intro j hj
      rw [mup_row, mup1_ne (by omega)]
      exact s1o j hj
    · intro j
      rw [mup_off (by omega), f2 _ (by omega) (by omega) (by omega), if_neg (fun q => nW q.2)]
    · intro j
      rw [mup_off (by omega), hso, mb_f nW, mb_f nK]
      split
      · rename_i e; rw [e]; omega
      · split
        · rename_i e; rw [e]; omega
        · rfl
  · rw [if_pos hg]
    have hc : xC σ p lamp step (cB σ (o + 1) k) = cB σ1 (o + 1) k 0 + sdc (cB σ1 (o + 1) k 2) := by
      unfold xC
      rw [s1B2, (s1A k).1]
    have hr : xR σ p lamp step (cB σ (o + 1) k) = cB σ1 (o + 1) k 1 + sdr (cB σ1 (o + 1) k 2) := by
      unfold xR
      rw [s1B2, (s1A k).2]
    have hwho : xWho (cB σ1 (o + 1)) (xC σ p lamp step (cB σ (o + 1) k)) (xR σ p lamp step (cB σ (o + 1) k)) n = xWho (cB σ (o + 1)) (xC σ p lamp step (cB σ (o + 1) k)) (xR σ p lamp step (cB σ (o + 1) k)) (σ p 11).toNat := by
      rw [h11, Int.toNat_natCast]
      exact xWho_congr (fun j _ => s1A j)
    obtain ⟨gB, gG⟩ := z_goAhead (F := F) (o := o) (k := k) (σ := σ1) (p := p) (n := n) hk6 hF (by rw [hso]; exact hp) (by rw [hso]; exact hp2) (by rw [hsp]; exact p1) (by rw [hsp]; exact p2) (by rw [hsp]; exact h11) hn
      (fun j hj => by
        rw [(s1A j).1, (s1A j).2]
        have := (hA j hj).1
        exact ⟨by omega, by omega⟩)
      (by rw [(s1A k).1]; omega) (by rw [(s1A k).2]; omega) (by rw [s1B2]; exact hw1) (by rw [s1B 7 (by decide) (by decide) (by decide)]; exact b7) (by rw [s1B 8 (by decide) (by decide) (by decide)]; exact b8) _ _ hc hr
    rw [hsp, hwho] at gB gG
    have s2 : σ1 (o + 2) = σ (o + 2) := f2 _ (by omega) (by omega) (by omega)
    by_cases hfr : xFree σ p (cB σ (o + 1)) (xC σ p lamp step (cB σ (o + 1) k)) (xR σ p lamp step (cB σ (o + 1) k))
    · have W : xWent σ p lamp step (cB σ (o + 1)) (cB σ (o + 1) k) := ⟨hg, hfr⟩
      have nK : ¬ xBlk σ p lamp step (cB σ (o + 1)) (cB σ (o + 1) k) := fun q => q.2 hfr
      obtain ⟨σ2, h1, h2, h3, h4, h5⟩ := gG hfr
      rw [s1B 7 (by decide) (by decide) (by decide), s1B 8 (by decide) (by decide) (by decide), s1B2] at h5
      refine ⟨mup σ2 (o + 1) (10 * k + 3) (σ2 (o + 1) (10 * k + 3) - 1), ?_, fun q q0 q1 q2 q4 q5 => ?_, ?_, ?_, ?_, ?_, ?_⟩
      · unfold g_X10_moveBox_b267
        exact e_mob h1 (e272 σ2)
      · rw [mup_off q1, h2 q q0 q1 q2, f2 q q1 q4 q5]
      · intro f hf
        show mup σ2 (o + 1) (10 * k + 3) (σ2 (o + 1) (10 * k + 3) - 1) (o + 1) (10 * k + f) = _
        rw [mup_row]
        unfold xNew
        rcases (by omega : f = 0 ∨ f = 1 ∨ f = 2 ∨ f = 3 ∨ f = 4 ∨ f = 5 ∨ f = 6 ∨ f = 7 ∨ f = 8) with rfl | rfl | rfl | rfl | rfl | rfl | rfl | rfl | rfl
        · rw [mup1_ne (by omega), if_pos rfl, if_pos W, h5, mup1_ne (by omega), mup1_ne (by omega), mup1_ne (by omega), mup1_at rfl]
        · rw [mup1_ne (by omega), if_neg (by decide), if_pos rfl, if_pos W, h5, mup1_ne (by omega), mup1_ne (by omega), mup1_at rfl]
        · rw [mup1_ne (by omega), if_neg (by decide), if_neg (by decide), if_pos rfl, h5, mup1_at rfl]
          by_cases hb7 : 0 < cB σ (o + 1) k 7 ∧ (cB σ (o + 1) k 8 + 1) % 2520 % cB σ (o + 1) k 7 = 0
          · rw [if_pos hb7, if_pos ⟨W, hb7⟩]
          · rw [if_neg hb7, if_neg (fun q => hb7 q.2)]
        · rw [mup1_at rfl, if_neg (by decide), if_neg (by decide), if_neg (by decide), if_pos rfl, h5, mup1_ne (by omega), mup1_ne (by omega), mup1_ne (by omega), mup1_ne (by omega), show σ1 (o + 1) (10 * k + 3) = cB σ (o + 1) k 3 from s1B 3 (by decide) (by decide) (by decide)]
        · rw [mup1_ne (by omega), if_neg (by decide), if_neg (by decide), if_neg (by decide), if_neg (by decide), if_pos rfl, h5, mup1_ne (by omega), mup1_ne (by omega), mup1_ne (by omega), mup1_ne (by omega)]; exact s1B4
        · rw [mup1_ne (by omega), h5, mup1_ne (by omega), mup1_ne (by omega), mup1_ne (by omega), mup1_ne (by omega)]; simp only [Nat.reduceEqDiff, if_false]; exact s1B 5 (by decide) (by decide) (by decide)
        · rw [mup1_ne (by omega), h5, mup1_ne (by omega), mup1_ne (by omega), mup1_ne (by omega), mup1_ne (by omega)]; simp only [Nat.reduceEqDiff, if_false]; exact s1B 6 (by decide) (by decide) (by decide)
        · rw [mup1_ne (by omega), h5, mup1_ne (by omega), mup1_ne (by omega), mup1_ne (by omega), mup1_ne (by omega)]; simp only [Nat.reduceEqDiff, if_false]; exact s1B 7 (by decide) (by decide) (by decide)
        · rw [mup1_ne (by omega), if_neg (by decide), if_neg (by decide), if_neg (by decide), if_neg (by decide), if_neg (by decide), if_pos rfl, if_pos W, h5, mup1_ne (by omega), mup1_at rfl]
      · rw [mup_row, mup1_ne (by omega), mb_f nK, Int.add_zero, h5, mup1_ne (by omega), mup1_ne (by omega), mup1_ne (by omega), mup1_ne (by omega)]
        exact s1B 9 (by decide) (by decide) (by decide)
      · intro j hj
        rw [mup_row, mup1_ne (by omega), h5, mup1_ne (by omega), mup1_ne (by omega), mup1_ne (by omega), mup1_ne (by omega)]
        exact s1o j hj
      · intro j
        rw [mup_off (by omega), h4, s2]
        by_cases e : j = k
        · rw [mup1_at e, if_pos ⟨e, W⟩]
        · rw [mup1_ne e, if_neg (fun q => e q.1)]
      · intro j
        rw [mup_off (by omega), h3, hso, mb_t W, mb_f nK]
        by_cases e6 : j = 6
        · rw [mup1_at e6, if_pos e6]
        · rw [mup1_ne e6, if_neg e6]
          split
          · rename_i e; rw [e]; omega
          · rfl
    · have nW : ¬ xWent σ p lamp step (cB σ (o + 1)) (cB σ (o + 1) k) := fun q => hfr q.2
      have Kk : xBlk σ p lamp step (cB σ (o + 1)) (cB σ (o + 1) k) := ⟨hg, hfr⟩
      have h1 := gB hfr
      rw [hso] at h1
      refine ⟨_, by unfold g_X10_moveBox_b267; exact e_mob h1 (e272 _), fun q q0 q1 q2 q4 q5 => ?_, ?_, ?_, ?_, ?_, ?_⟩
      · rw [mup_off q1, mup_off q0, mup_off q1, f2 q q1 q4 q5]
      · intro f hf
        show mup _ (o + 1) (10 * k + 3) _ (o + 1) (10 * k + f) = _
        rw [mup_row, mup_off (show o + 1 ≠ o by omega), mup_row]
        unfold xNew
        rcases (by omega : f = 0 ∨ f = 1 ∨ f = 2 ∨ f = 3 ∨ f = 4 ∨ f = 5 ∨ f = 6 ∨ f = 7 ∨ f = 8) with rfl | rfl | rfl | rfl | rfl | rfl | rfl | rfl | rfl
        · rw [mup1_ne (by omega), mup1_ne (by omega), if_pos rfl, if_neg nW]; exact s1B 0 (by decide) (by decide) (by decide)
        · rw [mup1_ne (by omega), mup1_ne (by omega), if_neg (by decide), if_pos rfl, if_neg nW]; exact s1B 1 (by decide) (by decide) (by decide)
        · rw [mup1_ne (by omega), mup1_ne (by omega), if_neg (by decide), if_neg (by decide), if_pos rfl, if_neg (fun q => nW q.1)]; exact s1B2
        · rw [mup1_at rfl, mup1_ne (by omega), if_neg (by decide), if_neg (by decide), if_neg (by decide), if_pos rfl, show σ1 (o + 1) (10 * k + 3) = cB σ (o + 1) k 3 from s1B 3 (by decide) (by decide) (by decide)]
        · rw [mup1_ne (by omega), mup1_ne (by omega), if_neg (by decide), if_neg (by decide), if_neg (by decide), if_neg (by decide), if_pos rfl]; exact s1B4
        · rw [mup1_ne (by omega), mup1_ne (by omega)]; simp only [Nat.reduceEqDiff, if_false]; exact s1B 5 (by decide) (by decide) (by decide)
        · rw [mup1_ne (by omega), mup1_ne (by omega)]; simp only [Nat.reduceEqDiff, if_false]; exact s1B 6 (by decide) (by decide) (by decide)
        · rw [mup1_ne (by omega), mup1_ne (by omega)]; simp only [Nat.reduceEqDiff, if_false]; exact s1B 7 (by decide) (by decide) (by decide)
        · rw [mup1_ne (by omega), mup1_ne (by omega), if_neg (by decide), if_neg (by decide), if_neg (by decide), if_neg (by decide), if_neg (by decide), if_pos rfl, if_neg nW]; exact s1B 8 (by decide) (by decide) (by decide)
      · rw [mup_row, mup1_ne (by omega), mup_off (by omega), mup_row, mup1_at rfl, mb_t Kk, show σ1 (o + 1) (10 * k + 9) = σ (o + 1) (10 * k + 9) from s1B 9 (by decide) (by decide) (by decide)]
      · intro j hj
        rw [mup_row, mup1_ne (by omega), mup_off (by omega), mup_row, mup1_ne (by omega)]
        exact s1o j hj
      · intro j
        rw [mup_off (by omega), mup_off (by omega), mup_off (by omega), s2, if_neg (fun q => nW q.2)]
      · intro j
        rw [mup_off (by omega), mup_row, mup_off (by omega), hso, mb_f nW, mb_t Kk]
        by_cases e7 : j = 7
        · rw [mup1_at e7, if_neg (by omega), if_pos e7]
        · rw [mup1_ne e7]
          split
          · rename_i e; rw [e]; omega
          · rfl
