/-! LAYER 2: found, the class takes one -/
def FQ (υ σ : mMem) : Prop := ∀ q, q ≠ 26 → q ≠ 27 → q ≠ 28 → υ q = σ q
theorem st_w {s : Nat} (hs : s < 324) : mand (s : Int) 3 = ((s % 4 : Nat) : Int) := by
  rw [mand_k 2 3 (by decide) (by omega) (by decide)]
  show (s : Int) % 4 = _
  omega
theorem st_s {s : Nat} (hs : s < 324) : mshr (s : Int) 2 = ((s / 4 : Nat) : Int) := by
  rw [mshr_n 2 (by omega) (by omega) (by decide)]
  show (s : Int) / 4 = _
  omega
theorem st_c {s : Nat} (hs : s < 324) : (mw ((s / 4 : Nat) : Int)).tmod (mw 9) = ((s / 4 % 9 : Nat) : Int) := by
  rw [mw_id (z := ((s / 4 : Nat) : Int)) (by omega) (by omega), mw_id (z := 9) (by decide) (by decide), mtmod (by omega)]
  omega
theorem st_r {s : Nat} (hs : s < 324) : (mw ((s / 4 : Nat) : Int)).tdiv (mw 9) = ((s / 36 : Nat) : Int) := by
  rw [mw_id (z := ((s / 4 : Nat) : Int)) (by omega) (by omega), mw_id (z := 9) (by decide) (by decide), mtdiv (by omega)]
  omega
theorem zc_pop {F p n b i s t0 : Nat} {σ υ : mMem} {a : Nat → Int} {d : Int} {Q : Nat → Int} {X : Nat → Prop} (hF : 2000 ≤ F) (q : QC σ p n (σ 20 5) (σ 20 4) 0 (cB σ 21)) (h3 : σ 20 3 = (p : Int)) (hb : b < n) (hf : FQ υ σ) (h : PSX υ a d t0 Q X) (hd : 0 ≤ d ∧ d ≤ 399) (ha : ∀ s, s < 324 → -1 ≤ a s ∧ a s ≤ 400) (hi : i < t0) (hQ : Q i = (s : Int)) (hs : s < 324) (as : a s = d) : (xBk (σ p 9) (σ p 10) (σ (p + 1)) (σ 20 5) s → ∀ f, g_X0_fewestMoves_h38 F 20 (f + 1) (b : Int) (i : Int) υ = some (d, υ)) ∧ (¬ xBk (σ p 9) (σ p 10) (σ (p + 1)) (σ 20 5) s → ∃ υ', (∀ f, g_X0_fewestMoves_h38 F 20 (f + 1) (b : Int) (i : Int) υ = g_X0_fewestMoves_h38 F 20 f (b : Int) ((i + 1 : Nat) : Int) υ') ∧ FQ υ' σ ∧ PSX υ' a d t0 Q (fun t => X t ∨ xE (σ p 9) (σ p 10) (cB σ 21) n b s t)) := by
  have hp := q.1.2
  have n6 := q.1.1
  have hP := q.2.1
  have h9 := hP.1
  have h10 := hP.2.1
  have hl := q.2.2.2.1
  have cr := h.1.rng
  have q28 : υ 28 i = (s : Int) := by rw [h.2.2.2.2.2.1 i hi]; exact hQ
  have v27 : υ 27 s = d := by rw [h.2.1 s hs (by omega)]; exact as
  have t3 := h.2.2.2.2.2.2
  have pl : ∀ μ : mMem, FQ μ σ → PlC μ p := fun μ hm => hP.same (hm p (by omega) (by omega) (by omega)) (hm (p + 1) (by omega) (by omega) (by omega)) (hm (p + 4) (by omega) (by omega) (by omega))
  have bl : g_X10_isBlack F 20 ((s / 4 % 9 : Nat) : Int) ((s / 36 : Nat) : Int) υ = some (mb (xBk (σ p 9) (σ p 10) (σ (p + 1)) (σ 20 5) s), υ) := by
    have := zc_isBlack (F := F) (o := 20) (p := p) (σ := υ) (c := ((s / 4 % 9 : Nat) : Int)) (r := ((s / 36 : Nat) : Int)) (by rw [hf 20 (by decide) (by decide) (by decide)]; omega) (by rw [hf 20 (by decide) (by decide) (by decide)]; omega) (pl υ hf) (by rw [hf 20 (by decide) (by decide) (by decide)]; exact hl) (by omega) (by omega)
    rw [hf 20 (by decide) (by decide) (by decide), hf p (by omega) (by omega) (by omega), hf (p + 1) (by omega) (by omega) (by omega)] at this
    exact this
  -- as far as the look for black
  have head : ∀ f X', (mob (some (mb (xBk (σ p 9) (σ p 10) (σ (p + 1)) (σ 20 5) s), υ)) (fun r116 σ117 => if mw r116 = 0 then (if 0 ≤ mw (s : Int) ∧ mw (s : Int) < (324 : Int) then mlet ((σ117 27 (mw (s : Int)).toNat) + 1) (fun y118 => mob (g_X0_reach F ((s / 4 % 9 : Nat) : Int) ((s / 36 : Nat) : Int) (mand (((s % 4 : Nat) : Int) + 3) 3) y118 σ117) (fun r119 σ120 => mob (g_X0_reach F ((s / 4 % 9 : Nat) : Int) ((s / 36 : Nat) : Int) (mand (((s % 4 : Nat) : Int) + 1) 3) y118 σ120) (fun r121 σ122 => mob (g_X10_columnStep F ((s % 4 : Nat) : Int) σ122) (fun r123 σ124 => mlet (((s / 4 % 9 : Nat) : Int) + r123) (fun y125 => mob (g_X10_rowStep F ((s % 4 : Nat) : Int) σ124) (fun r126 σ127 => mlet (((s / 36 : Nat) : Int) + r126) (fun y128 => mob (g_X10_boxOn F 20 y125 y128 σ127) (fun r129 σ130 => if σ130 20 3 = 3 ∨ σ130 20 3 = 8 then mob (g_X5_hasCell F (σ130 20 3).toNat y125 y128 σ130) (fun r132 σ133 => if mw r132 = 0 then (g_X0_fewestMoves_b215 F 20 (g_X0_fewestMoves_h38 F 20 f) (b : Int) (i : Int) σ133) else (if mw r129 = mw (-1) then (g_X0_fewestMoves_b203 F 20 (g_X0_fewestMoves_h38 F 20 f) (b : Int) (i : Int) ((s % 4 : Nat) : Int) y118 y125 y128 σ133) else (if ¬ mw r129 = mw (b : Int) then (g_X0_fewestMoves_b215 F 20 (g_X0_fewestMoves_h38 F 20 f) (b : Int) (i : Int) σ133) else (g_X0_fewestMoves_b203 F 20 (g_X0_fewestMoves_h38 F 20 f) (b : Int) (i : Int) ((s % 4 : Nat) : Int) y118 y125 y128 σ133)))) else none)))))))) else none) else (if 0 ≤ mw (s : Int) ∧ mw (s : Int) < (324 : Int) then some (σ117 27 (mw (s : Int)).toNat, σ117) else none))) = X' → g_X0_fewestMoves_h38 F 20 (f + 1) (b : Int) (i : Int) υ = X' := by
    intro f X' hX
    conv => lhs; unfold g_X0_fewestMoves_h38
    rw [mwN (i := i) (by omega), q28]
    refine e_f (by rw [mw_id (by omega) (by omega), mw_id (by omega) (by omega)]; omega) (e_f (by rw [mw_id (by omega) (by omega), mw_id (by omega) (by omega)]; omega) (e_t (mwR (by omega) (by decide)) (e_let ?_)))
    rw [st_w hs, st_s hs, st_c hs, st_r hs]
    refine e_let (e_f (by decide) (e_let (e_f (by decide) (e_let ?_))))
    rw [bl]
    exact hX
  refine ⟨fun bk f => head f _ ?_, fun bk => ?_⟩
  · rw [mb_t bk, mwN (i := s) (by omega)]
    refine e_mob rfl (e_f (by decide) (e_t (mwR (by omega) (by decide)) ?_))
    rw [v27]
  · have m3 : mand (((s % 4 : Nat) : Int) + 3) 3 = (((s % 4 + 3) % 4 : Nat) : Int) := by
      rw [and3 (by omega)]; omega
    have m1 : mand (((s % 4 : Nat) : Int) + 1) 3 = (((s % 4 + 1) % 4 : Nat) : Int) := by
      rw [and3 (by omega)]; omega
    obtain ⟨υ1, a1, a2, a3⟩ := h.reach (F := F) (y := 4 * (s / 4) + (s % 4 + 3) % 4) (c := ((s / 4 % 9 : Nat) : Int)) (r := ((s / 36 : Nat) : Int)) (w := (((s % 4 + 3) % 4 : Nat) : Int)) (by omega) ha (by omega) (by omega)
    obtain ⟨υ2, b1, b2, b3⟩ := a3.reach (F := F) (y := 4 * (s / 4) + (s % 4 + 1) % 4) (c := ((s / 4 % 9 : Nat) : Int)) (r := ((s / 36 : Nat) : Int)) (w := (((s % 4 + 1) % 4 : Nat) : Int)) (by omega) ha (by omega) (by omega)
    have f1 : FQ υ1 σ := fun q q1 q2 q3 => by rw [a2 q q1 q2 q3, hf q q1 q2 q3]
    have f2 : FQ υ2 σ := fun q q1 q2 q3 => by rw [b2 q q1 q2 q3, f1 q q1 q2 q3]
    obtain ⟨C', eC⟩ : ∃ z : Int, z = ((s / 4 % 9 : Nat) : Int) + sdc ((s % 4 : Nat) : Int) := ⟨_, rfl⟩
    obtain ⟨R', eR⟩ : ∃ z : Int, z = ((s / 36 : Nat) : Int) + sdr ((s % 4 : Nat) : Int) := ⟨_, rfl⟩
    have rc := sdc_rng ((s % 4 : Nat) : Int)
    have rr := sdr_rng ((s % 4 : Nat) : Int)
    have bo : g_X10_boxOn F 20 C' R' υ2 = some (xWho (cB σ 21) C' R' n, υ2) := by
      have e21 : cB υ2 (20 + 1) = cB σ 21 := by
        funext j g
        show υ2 21 (10 * j + g) = σ 21 (10 * j + g)
        rw [f2 21 (by decide) (by decide) (by decide)]
      have := zc_boxOn (F := F) (o := 20) (p := p) (n := n) (σ := υ2) (c := C') (r := R') hF (by rw [f2 20 (by decide) (by decide) (by decide)]; omega) (by rw [f2 20 (by decide) (by decide) (by decide)]; omega) (by rw [f2 p (by omega) (by omega) (by omega)]; exact q.2.2.1) n6 (by omega) (by omega) (fun k hk => by rw [f2 p (by omega) (by omega) (by omega), e21]; exact q.2.2.2.2.2.2 k hk) (by rw [f2 p (by omega) (by omega) (by omega)]; exact h9.2) (by rw [f2 p (by omega) (by omega) (by omega)]; exact h10.2)
      rw [e21] at this
      exact this
    have hcell : g_X5_hasCell F p C' R' υ2 = some (mb (sOn (σ p 9) (σ p 10) C' R'), υ2) := by
      have := z_hasCelli (F := F) (p := p) (σ := υ2) (c := C') (r := R') (by omega) (by omega) (by rw [f2 p (by omega) (by omega) (by omega)]; omega) (by rw [f2 p (by omega) (by omega) (by omega)]; omega)
      rw [f2 p (by omega) (by omega) (by omega)] at this
      exact this
    have wr := xWho_rng (A := cB σ 21) (c := C') (r := R') n
    have go : ∀ f X', (if mw (mb (sOn (σ p 9) (σ p 10) C' R')) = 0 then (g_X0_fewestMoves_b215 F 20 (g_X0_fewestMoves_h38 F 20 f) (b : Int) (i : Int) υ2) else (if xWho (cB σ 21) C' R' n = -1 then (g_X0_fewestMoves_b203 F 20 (g_X0_fewestMoves_h38 F 20 f) (b : Int) (i : Int) ((s % 4 : Nat) : Int) (d + 1) C' R' υ2) else (if ¬ xWho (cB σ 21) C' R' n = (b : Int) then (g_X0_fewestMoves_b215 F 20 (g_X0_fewestMoves_h38 F 20 f) (b : Int) (i : Int) υ2) else (g_X0_fewestMoves_b203 F 20 (g_X0_fewestMoves_h38 F 20 f) (b : Int) (i : Int) ((s % 4 : Nat) : Int) (d + 1) C' R' υ2)))) = X' → g_X0_fewestMoves_h38 F 20 (f + 1) (b : Int) (i : Int) υ = X' := by
      intro f X' hX
      refine head f X' ?_
      rw [mb_f bk, mwN (i := s) (by omega), m3, m1]
      refine e_mob rfl (e_t (by decide) (e_t (mwR (by omega) (by decide)) ?_))
      rw [v27]
      refine (e_let (e_mob a1 (e_mob b1 (e_mob (z_colStep (by omega)) (e_let (e_mob (z_rowStep (by omega)) (e_let ?_)))))))
      rw [← eC, ← eR]
      refine e_mob bo ?_
      rw [f2 20 (by decide) (by decide) (by decide), h3, show ((p : Int)).toNat = p by omega]
      refine e_t (by omega) (e_mob hcell ?_)
      rw [mw_id (z := xWho (cB σ 21) C' R' n) (by omega) (by omega), mw_id (z := -1) (by decide) (by decide), mw_id (z := (b : Int)) (by omega) (by omega)]
      exact hX
    by_cases fw : sOn (σ p 9) (σ p 10) C' R' ∧ (xWho (cB σ 21) C' R' n = -1 ∨ xWho (cB σ 21) C' R' n = (b : Int))
    · obtain ⟨y, ey⟩ : ∃ y : Nat, (y : Int) = 4 * (9 * R' + C') + ((s % 4 : Nat) : Int) := ⟨(4 * (9 * R' + C') + ((s % 4 : Nat) : Int)).toNat, by omega⟩
      obtain ⟨υ3, c1, c2, c3⟩ := b3.reach (F := F) (y := y) (c := C') (r := R') (w := ((s % 4 : Nat) : Int)) (by omega) ha (by omega) (by omega)
      refine ⟨υ3, fun f => go f _ ?_, fun q q1 q2 q3 => by rw [c2 q q1 q2 q3, f2 q q1 q2 q3], c3.congr (fun t _ => ?_)⟩
      · have b203 : g_X0_fewestMoves_b203 F 20 (g_X0_fewestMoves_h38 F 20 f) (b : Int) (i : Int) ((s % 4 : Nat) : Int) (d + 1) C' R' υ2 = g_X0_fewestMoves_h38 F 20 f (b : Int) ((i + 1 : Nat) : Int) υ3 := by
          unfold g_X0_fewestMoves_b203 g_X0_fewestMoves_b215
          rw [show ((i + 1 : Nat) : Int) = (i : Int) + 1 by omega]
          exact e_mob c1 rfl
        rw [mb_t fw.1, b203]
        refine e_f (by decide) ?_
        by_cases w1 : xWho (cB σ 21) C' R' n = -1
        · exact e_t w1 rfl
        · exact e_f w1 (e_f (fun e => by rcases fw.2 with k | k; exact w1 k; exact e k) rfl)
      · unfold xE
        rw [← eC, ← eR]
        constructor
        · rintro (((k | k) | k) | k)
          · exact Or.inl k
          · exact Or.inr (Or.inr (Or.inl k))
          · exact Or.inr (Or.inl k)
          · exact Or.inr (Or.inr (Or.inr ⟨fw.1, fw.2, by rw [k]; exact ey⟩))
        · rintro (k | k | k | k)
          · exact Or.inl (Or.inl (Or.inl k))
          · exact Or.inl (Or.inr k)
          · exact Or.inl (Or.inl (Or.inr k))
          · exact Or.inr (by have := k.2.2; omega)
    · refine ⟨υ2, fun f => go f _ ?_, f2, b3.congr (fun t _ => ?_)⟩
      · have b215 : g_X0_fewestMoves_b215 F 20 (g_X0_fewestMoves_h38 F 20 f) (b : Int) (i : Int) υ2 = g_X0_fewestMoves_h38 F 20 f (b : Int) ((i + 1 : Nat) : Int) υ2 := by
          unfold g_X0_fewestMoves_b215
          rw [show ((i + 1 : Nat) : Int) = (i : Int) + 1 by omega]
        rw [b215]
        by_cases s1 : sOn (σ p 9) (σ p 10) C' R'
        · rw [mb_t s1]
          exact e_f (by decide) (e_f (fun k => fw ⟨s1, Or.inl k⟩) (e_t (fun k => fw ⟨s1, Or.inr k⟩) rfl))
        · rw [mb_f s1]
          exact e_t (by decide) rfl
      · unfold xE
        rw [← eC, ← eR]
        constructor
        · rintro ((k | k) | k)
          · exact Or.inl k
          · exact Or.inr (Or.inr (Or.inl k))
          · exact Or.inr (Or.inl k)
        · rintro (k | k | k | k)
          · exact Or.inl (Or.inl k)
          · exact Or.inr k
          · exact Or.inl (Or.inr k)
          · exact absurd ⟨k.1, k.2.1⟩ fw
