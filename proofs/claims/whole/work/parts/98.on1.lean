/-! LAYER 2: on, a box -/
def xNw (b : Nat → Int) (A : Nat → Nat → Int) (k f : Nat) : Int := if f = 0 then b (3 + 8 * k) else if f = 1 then b (3 + 8 * k + 1) else if f = 2 then b (3 + 8 * k + 2) else if f = 3 then 256 * b (3 + 8 * k + 3) + b (3 + 8 * k + 4) else if f = 4 then b (3 + 8 * k + 5) else if f = 8 then 256 * b (3 + 8 * k + 6) + b (3 + 8 * k + 7) else A k f
abbrev okB (C R : Int) (b : Nat → Int) (k : Nat) : Prop := sOn C R (b (3 + 8 * k)) (b (3 + 8 * k + 1)) ∧ xWho (xNw b (fun _ _ => 0)) (b (3 + 8 * k)) (b (3 + 8 * k + 1)) k = -1 ∧ b (3 + 8 * k + 2) ≤ 3 ∧ 256 * b (3 + 8 * k + 3) + b (3 + 8 * k + 4) ≤ 999 ∧ b (3 + 8 * k + 5) ≤ 99 ∧ 256 * b (3 + 8 * k + 6) + b (3 + 8 * k + 7) < 2520
def Tp (b : Nat → Int) (l : Nat) : Prop := l ≤ 52 ∧ ∀ j, j < l → 0 ≤ b j ∧ b j ≤ 255
theorem zt_at {F i l : Nat} {μ : mMem} {b : Nat → Int} (hl : l ≤ 1600) (h1 : μ 1 1 = (l : Int)) (h2 : μ 2 i = b i) (hi : i < l) : g_X7_at F (i : Int) μ = some (b i, μ) := by
  unfold g_X7_at g_X7_at_b29
  rw [h1, mwN (by omega), mw_id (z := (i : Int)) (by omega) (by omega), mw_id (z := (l : Int)) (by omega) (by omega), mw_id (z := 1600) (by decide) (by decide), h2]
  exact e_f (by omega) (e_f (by omega) (e_t (by omega) (e_t (by omega) rfl)))
theorem zt_pair {F i l : Nat} {μ : mMem} {b : Nat → Int} (hl : l ≤ 1600) (h1 : μ 1 1 = (l : Int)) (h2 : μ 2 i = b i) (h3 : μ 2 (i + 1) = b (i + 1)) (hi : i + 1 < l) : g_X7_pairAt F (i : Int) μ = some (256 * b i + b (i + 1), μ) := by
  unfold g_X7_pairAt
  refine e_mob (zt_at hl h1 h2 (by omega)) ?_
  have := zt_at (F := F) (i := i + 1) hl h1 h3 hi
  rw [show ((i + 1 : Nat) : Int) = (i : Int) + 1 by omega] at this
  exact e_mob this rfl
theorem zc_rb {F p n k l : Nat} {υ : mMem} {b : Nat → Int} (hF : 2000 ≤ F) (hn : n ≤ 6) (hk : k < n) (hp : p = 3 ∨ p = 8) (h3 : υ 79 3 = (p : Int)) (hl : l = 4 + 8 * n) (h1 : υ 1 1 = (l : Int)) (h2 : ∀ j, j < l → υ 2 j = b j) (hT : Tp b l) (h9 : 0 ≤ υ p 9 ∧ υ p 9 ≤ 9) (h10 : 0 ≤ υ p 10 ∧ υ p 10 ≤ 9) (hprev : ∀ j, j < k → cB υ 80 j 0 = b (3 + 8 * j) ∧ cB υ 80 j 1 = b (3 + 8 * j + 1)) :
    ∃ υ', g_X4_readBox F (k : Int) υ = some (mb (okB (υ p 9) (υ p 10) b k), υ') ∧ (∀ q, q ≠ 80 → υ' q = υ q) ∧ (∀ j, ¬ (10 * k ≤ j ∧ j < 10 * k + 10) → υ' 80 j = υ 80 j) ∧ (okB (υ p 9) (υ p 10) b k → ∀ f, f < 9 → cB υ' 80 k f = xNw b (cB υ 80) k f) := by
  have T := hT.2
  have t0 := T (3 + 8 * k) (by omega)
  have t1 := T (3 + 8 * k + 1) (by omega)
  have t2 := T (3 + 8 * k + 2) (by omega)
  have t3 := T (3 + 8 * k + 3) (by omega)
  have t4 := T (3 + 8 * k + 4) (by omega)
  have t5 := T (3 + 8 * k + 5) (by omega)
  have t6 := T (3 + 8 * k + 6) (by omega)
  have t7 := T (3 + 8 * k + 7) (by omega)
  have ey : (3 + 8 * (k : Int)) = ((3 + 8 * k : Nat) : Int) := by omega
  have at0 : g_X7_at F (3 + 8 * (k : Int)) υ = some (b (3 + 8 * k), υ) := by rw [ey]; exact zt_at (by omega) h1 (h2 _ (by omega)) (by omega)
  have at1 : g_X7_at F (3 + 8 * (k : Int) + 1) υ = some (b (3 + 8 * k + 1), υ) := by
    rw [ey, show (((3 + 8 * k : Nat) : Int) + 1) = ((3 + 8 * k + 1 : Nat) : Int) by omega]; exact zt_at (by omega) h1 (h2 _ (by omega)) (by omega)
  have hw : g_X10_boxIn F 80 60 (k : Int) (b (3 + 8 * k)) (b (3 + 8 * k + 1)) υ = some (xWho (xNw b (fun _ _ => 0)) (b (3 + 8 * k)) (b (3 + 8 * k + 1)) k, υ) := by
    have := z_boxIn (F := F) (a := 80) (L := 60) (σ := υ) (n := k) (c := b (3 + 8 * k)) (r := b (3 + 8 * k + 1)) rfl (by omega) (by omega) (by omega) (by omega) (fun j hj => by
      rw [(hprev j hj).1, (hprev j hj).2]
      have := T (3 + 8 * j) (by omega)
      have := T (3 + 8 * j + 1) (by omega)
      omega)
    rw [xWho_congr (A' := xNw b (fun _ _ => 0)) (fun j hj => hprev j hj)] at this
    exact this
  have wr := xWho_rng (A := xNw b (fun _ _ => 0)) (c := b (3 + 8 * k)) (r := b (3 + 8 * k + 1)) k
  have head : ∀ X, (if mw (mb (sOn (υ p 9) (υ p 10) (b (3 + 8 * k)) (b (3 + 8 * k + 1)))) = 0 then (g_X4_readBox_b59 F υ) else (mob (g_X10_boxIn F 80 60 (k : Int) (b (3 + 8 * k)) (b (3 + 8 * k + 1)) υ) (fun r9 σ10 => if mw r9 = mw (-1) then (mob (g_X10_set F 79 (k : Int) 0 (b (3 + 8 * k)) σ10) (fun r11 σ12 => mob (g_X10_set F 79 (k : Int) 1 (b (3 + 8 * k + 1)) σ12) (fun r13 σ14 => mob (g_X7_at F (3 + 8 * (k : Int) + 2) σ14) (fun r15 σ16 => mob (g_X10_set F 79 (k : Int) 2 r15 σ16) (fun r17 σ18 => mob (g_X7_pairAt F (3 + 8 * (k : Int) + 3) σ18) (fun r19 σ20 => mob (g_X10_set F 79 (k : Int) 3 r19 σ20) (fun r21 σ22 => mob (g_X7_at F (3 + 8 * (k : Int) + 5) σ22) (fun r23 σ24 => mob (g_X10_set F 79 (k : Int) 4 r23 σ24) (fun r25 σ26 => mob (g_X7_pairAt F (3 + 8 * (k : Int) + 6) σ26) (fun r27 σ28 => mob (g_X10_set F 79 (k : Int) 8 r27 σ28) (fun r29 σ30 => mob (g_X10_of F 79 (k : Int) 2 σ30) (fun r31 σ32 => if mw 3 < mw r31 then (g_X4_readBox_b211 F σ32) else (mob (g_X10_of F 79 (k : Int) 3 σ32) (fun r33 σ34 => if mw 999 < mw r33 then (g_X4_readBox_b211 F σ34) else (mob (g_X10_of F 79 (k : Int) 4 σ34) (fun r35 σ36 => if mw 99 < mw r35 then (g_X4_readBox_b211 F σ36) else (mob (g_X10_of F 79 (k : Int) 8 σ36) (fun r37 σ38 => if mw 2520 ≤ mw r37 then (g_X4_readBox_b211 F σ38) else (g_X4_readBox_b212 F 1 σ38))))))))))))))))))) else (g_X4_readBox_b59 F σ10)))) = X → g_X4_readBox F (k : Int) υ = X := by
    intro X hX
    unfold g_X4_readBox
    refine e_let (e_mob at0 (e_mob at1 ?_))
    rw [h3, show ((p : Int)).toNat = p by omega]
    exact e_t (by omega) (e_mob (z_hasCelli (by omega) (by omega) (by omega) (by omega)) hX)
  by_cases c1 : sOn (υ p 9) (υ p 10) (b (3 + 8 * k)) (b (3 + 8 * k + 1))
  · by_cases c2 : xWho (xNw b (fun _ _ => 0)) (b (3 + 8 * k)) (b (3 + 8 * k + 1)) k = -1
    · obtain ⟨M, eM⟩ : ∃ y, y = mup (mup (mup (mup (mup (mup υ (79 + 1) (10 * k + 0) (b (3 + 8 * k))) (79 + 1) (10 * k + 1) (b (3 + 8 * k + 1))) (79 + 1) (10 * k + 2) (b (3 + 8 * k + 2))) (79 + 1) (10 * k + 3) (256 * b (3 + 8 * k + 3) + b (3 + 8 * k + 4))) (79 + 1) (10 * k + 4) (b (3 + 8 * k + 5))) (79 + 1) (10 * k + 8) (256 * b (3 + 8 * k + 6) + b (3 + 8 * k + 7)) := ⟨_, rfl⟩
      have m2 : M (79 + 1) (10 * k + 2) = b (3 + 8 * k + 2) := by rw [eM, mup_ne (by omega), mup_ne (by omega), mup_ne (by omega), mup_at rfl rfl]
      have m3 : M (79 + 1) (10 * k + 3) = 256 * b (3 + 8 * k + 3) + b (3 + 8 * k + 4) := by rw [eM, mup_ne (by omega), mup_ne (by omega), mup_at rfl rfl]
      have m4 : M (79 + 1) (10 * k + 4) = b (3 + 8 * k + 5) := by rw [eM, mup_ne (by omega), mup_at rfl rfl]
      have m8 : M (79 + 1) (10 * k + 8) = 256 * b (3 + 8 * k + 6) + b (3 + 8 * k + 7) := by rw [eM, mup_at rfl rfl]
      have fin : ∀ X, (if (3 : Int) < b (3 + 8 * k + 2) then (g_X4_readBox_b211 F M) else (if (999 : Int) < 256 * b (3 + 8 * k + 3) + b (3 + 8 * k + 4) then (g_X4_readBox_b211 F M) else (if (99 : Int) < b (3 + 8 * k + 5) then (g_X4_readBox_b211 F M) else (if (2520 : Int) ≤ 256 * b (3 + 8 * k + 6) + b (3 + 8 * k + 7) then (g_X4_readBox_b211 F M) else (g_X4_readBox_b212 F 1 M))))) = X → g_X4_readBox F (k : Int) υ = X := by
        intro X hX
        refine head X ?_
        rw [mb_t c1]
        refine e_f (by decide) (e_mob hw (e_t (by rw [c2]) (e_mob (zs_0 (by omega)) (e_mob (zs_1 (by omega)) ?_))))
        have a2 : ∀ μ : mMem, μ 1 = υ 1 → μ 2 = υ 2 → g_X7_at F (3 + 8 * (k : Int) + 2) μ = some (b (3 + 8 * k + 2), μ) := fun μ u1 u2 => by
          rw [show (3 + 8 * (k : Int) + 2) = ((3 + 8 * k + 2 : Nat) : Int) by omega]; exact zt_at (l := l) (by omega) (by rw [u1]; exact h1) (by rw [u2]; exact h2 _ (by omega)) (by omega)
        have a5 : ∀ μ : mMem, μ 1 = υ 1 → μ 2 = υ 2 → g_X7_at F (3 + 8 * (k : Int) + 5) μ = some (b (3 + 8 * k + 5), μ) := fun μ u1 u2 => by
          rw [show (3 + 8 * (k : Int) + 5) = ((3 + 8 * k + 5 : Nat) : Int) by omega]; exact zt_at (l := l) (by omega) (by rw [u1]; exact h1) (by rw [u2]; exact h2 _ (by omega)) (by omega)
        have a3 : ∀ μ : mMem, μ 1 = υ 1 → μ 2 = υ 2 → g_X7_pairAt F (3 + 8 * (k : Int) + 3) μ = some (256 * b (3 + 8 * k + 3) + b (3 + 8 * k + 4), μ) := fun μ u1 u2 => by
          rw [show (3 + 8 * (k : Int) + 3) = ((3 + 8 * k + 3 : Nat) : Int) by omega]; exact zt_pair (l := l) (by omega) (by rw [u1]; exact h1) (by rw [u2]; exact h2 _ (by omega)) (by rw [u2]; exact h2 _ (by omega)) (by omega)
        have a6 : ∀ μ : mMem, μ 1 = υ 1 → μ 2 = υ 2 → g_X7_pairAt F (3 + 8 * (k : Int) + 6) μ = some (256 * b (3 + 8 * k + 6) + b (3 + 8 * k + 7), μ) := fun μ u1 u2 => by
          rw [show (3 + 8 * (k : Int) + 6) = ((3 + 8 * k + 6 : Nat) : Int) by omega]; exact zt_pair (l := l) (by omega) (by rw [u1]; exact h1) (by rw [u2]; exact h2 _ (by omega)) (by rw [u2]; exact h2 _ (by omega)) (by omega)
        refine e_mob (a2 _ (by rw [mup_off (by decide), mup_off (by decide)]) (by rw [mup_off (by decide), mup_off (by decide)])) (e_mob (zs_2 (by omega)) ?_)
        refine e_mob (a3 _ (by rw [mup_off (by decide), mup_off (by decide), mup_off (by decide)]) (by rw [mup_off (by decide), mup_off (by decide), mup_off (by decide)])) (e_mob (zs_3 (by omega)) ?_)
        refine e_mob (a5 _ (by rw [mup_off (by decide), mup_off (by decide), mup_off (by decide), mup_off (by decide)]) (by rw [mup_off (by decide), mup_off (by decide), mup_off (by decide), mup_off (by decide)])) (e_mob (zs_4 (by omega)) ?_)
        refine e_mob (a6 _ (by rw [mup_off (by decide), mup_off (by decide), mup_off (by decide), mup_off (by decide), mup_off (by decide)]) (by rw [mup_off (by decide), mup_off (by decide), mup_off (by decide), mup_off (by decide), mup_off (by decide)])) (e_mob (zs_8 (by omega)) ?_)
        rw [← eM]
        refine e_mob (zo_2 (by omega)) ?_
        rw [m2, mw_id (z := b (3 + 8 * k + 2)) (by omega) (by omega), mw_id (z := 3) (by decide) (by decide), mw_id (z := 999) (by decide) (by decide), mw_id (z := 99) (by decide) (by decide), mw_id (z := 2520) (by decide) (by decide), ← hX]
        by_cases d1 : (3 : Int) < b (3 + 8 * k + 2)
        · exact (if_pos d1).trans (if_pos d1).symm
        · refine (if_neg d1).trans (Eq.trans ?_ (if_neg d1).symm)
          refine e_mob (zo_3 (by omega)) ?_
          rw [m3, mw_id (z := 256 * b (3 + 8 * k + 3) + b (3 + 8 * k + 4)) (by omega) (by omega)]
          by_cases d2 : (999 : Int) < 256 * b (3 + 8 * k + 3) + b (3 + 8 * k + 4)
          · exact (if_pos d2).trans (if_pos d2).symm
          · refine (if_neg d2).trans (Eq.trans ?_ (if_neg d2).symm)
            refine e_mob (zo_4 (by omega)) ?_
            rw [m4, mw_id (z := b (3 + 8 * k + 5)) (by omega) (by omega)]
            by_cases d3 : (99 : Int) < b (3 + 8 * k + 5)
            · exact (if_pos d3).trans (if_pos d3).symm
            · refine (if_neg d3).trans (Eq.trans ?_ (if_neg d3).symm)
              refine e_mob (zo_8 (by omega)) ?_
              rw [m8, mw_id (z := 256 * b (3 + 8 * k + 6) + b (3 + 8 * k + 7)) (by omega) (by omega)]
      refine ⟨M, fin _ ?_, fun q hq => ?_, fun j hj => ?_, fun ok f hf => ?_⟩
      · have no : g_X4_readBox_b211 F M = some (0, M) := by
          unfold g_X4_readBox_b211 g_X4_readBox_b212
          exact e_t (by decide) rfl
        have yes : g_X4_readBox_b212 F 1 M = some (1, M) := e_t (by decide) rfl
        rw [no, yes]
        by_cases ok : okB (υ p 9) (υ p 10) b k
        · obtain ⟨-, -, k3, k4, k5, k6⟩ := ok
          rw [mb_t ⟨c1, c2, k3, k4, k5, k6⟩]
          exact (if_neg (by omega)).trans ((if_neg (by omega)).trans ((if_neg (by omega)).trans (if_neg (by omega))))
        · rw [mb_f ok]
          by_cases d1 : (3 : Int) < b (3 + 8 * k + 2)
          · exact if_pos d1
          · refine (if_neg d1).trans ?_
            by_cases d2 : (999 : Int) < 256 * b (3 + 8 * k + 3) + b (3 + 8 * k + 4)
            · exact if_pos d2
            · refine (if_neg d2).trans ?_
              by_cases d3 : (99 : Int) < b (3 + 8 * k + 5)
              · exact if_pos d3
              · refine (if_neg d3).trans ?_
                by_cases d4 : (2520 : Int) ≤ 256 * b (3 + 8 * k + 6) + b (3 + 8 * k + 7)
                · exact if_pos d4
                · exact absurd ⟨c1, c2, by omega, by omega, by omega, by omega⟩ ok
      · rw [eM, mup_off (by omega), mup_off (by omega), mup_off (by omega), mup_off (by omega), mup_off (by omega), mup_off (by omega)]
      · rw [eM, mup_ne (by omega), mup_ne (by omega), mup_ne (by omega), mup_ne (by omega), mup_ne (by omega), mup_ne (by omega)]
      · show M 80 (10 * k + f) = xNw b (cB υ 80) k f
        rcases (by omega : f = 0 ∨ f = 1 ∨ f = 2 ∨ f = 3 ∨ f = 4 ∨ f = 8 ∨ (f = 5 ∨ f = 6 ∨ f = 7)) with rfl | rfl | rfl | rfl | rfl | rfl | h
        · rw [eM, mup_ne (by omega), mup_ne (by omega), mup_ne (by omega), mup_ne (by omega), mup_ne (by omega), mup_at rfl rfl]; rfl
        · rw [eM, mup_ne (by omega), mup_ne (by omega), mup_ne (by omega), mup_ne (by omega), mup_at rfl rfl]; rfl
        · exact m2
        · exact m3
        · exact m4
        · exact m8
        · rw [eM, mup_ne (by omega), mup_ne (by omega), mup_ne (by omega), mup_ne (by omega), mup_ne (by omega), mup_ne (by omega)]
          unfold xNw
          rw [if_neg (by omega), if_neg (by omega), if_neg (by omega), if_neg (by omega), if_neg (by omega), if_neg (by omega)]
    · refine ⟨υ, head _ ?_, fun _ _ => rfl, fun _ _ => rfl, fun ok => absurd ok.2.1 c2⟩
      rw [mb_t c1, mb_f (fun ok : okB (υ p 9) (υ p 10) b k => c2 ok.2.1)]
      exact e_f (by decide) (e_mob hw (e_f (by rw [mw_id (by omega) (by omega), mw_id (by omega) (by omega)]; exact c2) (e_t (by decide) rfl)))
  · refine ⟨υ, head _ ?_, fun _ _ => rfl, fun _ _ => rfl, fun ok => absurd ok.1 c1⟩
    rw [mb_f c1, mb_f (fun ok : okB (υ p 9) (υ p 10) b k => c1 ok.1)]
    exact e_t (by decide) (e_t (by decide) rfl)
