/-! LAYER 2: feed, kept -/
def by8 (x : Int) (i : Nat) : Int := mand (mshr x (24 - 8 * (i : Int))) 255
theorem zc_add {F l : Nat} {σ : mMem} {x : Int} (hF : 10 ≤ F) (hl : σ 1 1 = (l : Int)) (h : l + 4 ≤ 1600) : ∃ σ', g_X7_add F x σ = some (0, σ') ∧ σ' 1 1 = ((l + 4 : Nat) : Int) ∧ (∀ j, σ' 2 j = if l ≤ j ∧ j < l + 4 then by8 x (j - l) else σ 2 j) ∧ (∀ q j, q ≠ 2 → ¬ (q = 1 ∧ j = 1) → σ' q j = σ q j) := by
  have st : ∀ (f i : Nat) (υ : mMem), i < 4 → υ 1 1 = ((l + i : Nat) : Int) → g_X7_add_h3 F (f + 1) x (24 - 8 * (i : Int)) υ = g_X7_add_h3 F f x (24 - 8 * ((i + 1 : Nat) : Int)) (mup (mup υ 2 (l + i) (by8 x i)) 1 1 ((l + i + 1 : Nat) : Int)) := by
    intro f i υ hi hυ
    conv => lhs; unfold g_X7_add_h3
    rw [hυ, mw_id (z := 24 - 8 * (i : Int)) (by omega) (by omega), mwN (i := l + i) (by omega), mw_id (z := ((l + i : Nat) : Int)) (by omega) (by omega), mw_id (z := 1600) (by omega) (by omega)]
    refine e_f (by omega) (e_f (by omega) (e_f (by omega) (e_t (by omega) (e_mem (e_mem ?_)))))
    rw [mup_off (show (1 : Nat) ≠ 2 by decide), hυ]
    show g_X7_add_h3 F f x (24 - 8 * (i : Int) + -8) _ = _
    rw [show (24 - 8 * (i : Int) + -8) = 24 - 8 * ((i + 1 : Nat) : Int) by omega, show ((l + i : Nat) : Int) + 1 = ((l + i + 1 : Nat) : Int) by omega]
    rfl
  obtain ⟨f, hf⟩ : ∃ f, F = f + 1 + 1 + 1 + 1 + 1 := ⟨F - 5, by omega⟩
  refine ⟨mup (mup (mup (mup (mup (mup (mup (mup σ 2 (l + 0) (by8 x 0)) 1 1 ((l + 0 + 1 : Nat) : Int)) 2 (l + 1) (by8 x 1)) 1 1 ((l + 1 + 1 : Nat) : Int)) 2 (l + 2) (by8 x 2)) 1 1 ((l + 2 + 1 : Nat) : Int)) 2 (l + 3) (by8 x 3)) 1 1 ((l + 3 + 1 : Nat) : Int), ?_, ?_, ?_, ?_⟩
  rotate_left
  · rw [mup_at rfl rfl]
  · intro j
    rw [mup_off (by decide), mup_row, mup_off (by decide), mup_row, mup_off (by decide), mup_row, mup_off (by decide), mup_row]
    by_cases c : l ≤ j ∧ j < l + 4
    · rw [if_pos c]
      rcases (by omega : j = l ∨ j = l + 1 ∨ j = l + 2 ∨ j = l + 3) with rfl | rfl | rfl | rfl
      · rw [mup1_ne (by omega), mup1_ne (by omega), mup1_ne (by omega), mup1_at (by omega), show j - j = 0 by omega]
      · rw [mup1_ne (by omega), mup1_ne (by omega), mup1_at rfl, show l + 1 - l = 1 by omega]
      · rw [mup1_ne (by omega), mup1_at rfl, show l + 2 - l = 2 by omega]
      · rw [mup1_at rfl, show l + 3 - l = 3 by omega]
    · rw [if_neg c, mup1_ne (by omega), mup1_ne (by omega), mup1_ne (by omega), mup1_ne (by omega)]
  · intro q j h1 h2
    rw [mup_ne h2, mup_off h1, mup_ne h2, mup_off h1, mup_ne h2, mup_off h1, mup_ne h2, mup_off h1]
  · have key : ∀ fu, fu = f + 1 + 1 + 1 + 1 + 1 → g_X7_add_h3 F fu x (24 - 8 * ((0 : Nat) : Int)) σ = some (0, mup (mup (mup (mup (mup (mup (mup (mup σ 2 (l + 0) (by8 x 0)) 1 1 ((l + 0 + 1 : Nat) : Int)) 2 (l + 1) (by8 x 1)) 1 1 ((l + 1 + 1 : Nat) : Int)) 2 (l + 2) (by8 x 2)) 1 1 ((l + 2 + 1 : Nat) : Int)) 2 (l + 3) (by8 x 3)) 1 1 ((l + 3 + 1 : Nat) : Int)) := by
      intro fu hfu
      rw [hfu, st (f + 1 + 1 + 1 + 1) 0 σ (by decide) (by rw [hl]; rfl), st (f + 1 + 1 + 1) 1 _ (by decide) (mup_at rfl rfl), st (f + 1 + 1) 2 _ (by decide) (mup_at rfl rfl), st (f + 1) 3 _ (by decide) (mup_at rfl rfl)]
      unfold g_X7_add_h3
      exact e_t (by decide) rfl
    have k2 := key F hf
    rw [show (24 - 8 * ((0 : Nat) : Int)) = 24 by decide] at k2
    exact k2
theorem zr_put {F l : Nat} {σ : mMem} {x : Int} (hF : 10 ≤ F) (hl : σ 86 1 = (l : Int)) (h : l + 4 ≤ 1600) : ∃ σ', g_X12_put F x σ = some (0, σ') ∧ σ' 86 1 = ((l + 4 : Nat) : Int) ∧ (∀ j, σ' 87 j = if l ≤ j ∧ j < l + 4 then by8 x (j - l) else σ 87 j) ∧ (∀ q j, q ≠ 87 → ¬ (q = 86 ∧ j = 1) → σ' q j = σ q j) := by
  have st : ∀ (f i : Nat) (υ : mMem), i < 4 → υ 86 1 = ((l + i : Nat) : Int) → g_X12_put_h3 F (f + 1) x (24 - 8 * (i : Int)) υ = g_X12_put_h3 F f x (24 - 8 * ((i + 1 : Nat) : Int)) (mup (mup υ 87 (l + i) (by8 x i)) 86 1 ((l + i + 1 : Nat) : Int)) := by
    intro f i υ hi hυ
    conv => lhs; unfold g_X12_put_h3
    rw [hυ, mw_id (z := 24 - 8 * (i : Int)) (by omega) (by omega), mwN (i := l + i) (by omega), mw_id (z := ((l + i : Nat) : Int)) (by omega) (by omega)]
    refine e_f (by omega) (e_t (by omega) (e_mem (e_mem ?_)))
    rw [mup_off (show (86 : Nat) ≠ 87 by decide), hυ]
    rw [show (24 - 8 * (i : Int) + -8) = 24 - 8 * ((i + 1 : Nat) : Int) by omega, show ((l + i : Nat) : Int) + 1 = ((l + i + 1 : Nat) : Int) by omega]
    rfl
  obtain ⟨f, hf⟩ : ∃ f, F = f + 1 + 1 + 1 + 1 + 1 := ⟨F - 5, by omega⟩
  refine ⟨mup (mup (mup (mup (mup (mup (mup (mup σ 87 (l + 0) (by8 x 0)) 86 1 ((l + 0 + 1 : Nat) : Int)) 87 (l + 1) (by8 x 1)) 86 1 ((l + 1 + 1 : Nat) : Int)) 87 (l + 2) (by8 x 2)) 86 1 ((l + 2 + 1 : Nat) : Int)) 87 (l + 3) (by8 x 3)) 86 1 ((l + 3 + 1 : Nat) : Int), ?_, ?_, ?_, ?_⟩
  rotate_left
  · rw [mup_at rfl rfl]
  · intro j
    rw [mup_off (by decide), mup_row, mup_off (by decide), mup_row, mup_off (by decide), mup_row, mup_off (by decide), mup_row]
    by_cases c : l ≤ j ∧ j < l + 4
    · rw [if_pos c]
      rcases (by omega : j = l ∨ j = l + 1 ∨ j = l + 2 ∨ j = l + 3) with rfl | rfl | rfl | rfl
      · rw [mup1_ne (by omega), mup1_ne (by omega), mup1_ne (by omega), mup1_at (by omega), show j - j = 0 by omega]
      · rw [mup1_ne (by omega), mup1_ne (by omega), mup1_at rfl, show l + 1 - l = 1 by omega]
      · rw [mup1_ne (by omega), mup1_at rfl, show l + 2 - l = 2 by omega]
      · rw [mup1_at rfl, show l + 3 - l = 3 by omega]
    · rw [if_neg c, mup1_ne (by omega), mup1_ne (by omega), mup1_ne (by omega), mup1_ne (by omega)]
  · intro q j h1 h2
    rw [mup_ne h2, mup_off h1, mup_ne h2, mup_off h1, mup_ne h2, mup_off h1, mup_ne h2, mup_off h1]
  · have key : ∀ fu, fu = f + 1 + 1 + 1 + 1 + 1 → g_X12_put_h3 F fu x (24 - 8 * ((0 : Nat) : Int)) σ = some (0, mup (mup (mup (mup (mup (mup (mup (mup σ 87 (l + 0) (by8 x 0)) 86 1 ((l + 0 + 1 : Nat) : Int)) 87 (l + 1) (by8 x 1)) 86 1 ((l + 1 + 1 : Nat) : Int)) 87 (l + 2) (by8 x 2)) 86 1 ((l + 2 + 1 : Nat) : Int)) 87 (l + 3) (by8 x 3)) 86 1 ((l + 3 + 1 : Nat) : Int)) := by
      intro fu hfu
      rw [hfu, st (f + 1 + 1 + 1 + 1) 0 σ (by decide) (by rw [hl]; rfl), st (f + 1 + 1 + 1) 1 _ (by decide) (mup_at rfl rfl), st (f + 1 + 1) 2 _ (by decide) (mup_at rfl rfl), st (f + 1) 3 _ (by decide) (mup_at rfl rfl)]
      unfold g_X12_put_h3
      exact e_t (by decide) rfl
    have k2 := key F hf
    rw [show (24 - 8 * ((0 : Nat) : Int)) = 24 by decide] at k2
    exact k2
theorem a_feed {F : Nat} {σ : mMem} {p s : Nat} {N a b c d e : Int} (hF : 2000 ≤ F) (r : Rel σ p s N) : Alk (g_X11_feed F a b c d e) (g_X12_feed F a b c d e) σ N := by
  obtain ⟨t1, t2, t3⟩ := r.1
  obtain ⟨l, el⟩ : ∃ l : Nat, σ 1 1 = (l : Int) := ⟨(σ 1 1).toNat, by omega⟩
  by_cases hs : l + 20 ≤ 1600
  · obtain ⟨σ1, a1, a2, a3, a4⟩ := zc_add (F := F) (x := a) (by omega) el (by omega)
    obtain ⟨σ2, b1, b2, b3, b4⟩ := zc_add (F := F) (x := b) (by omega) a2 (by omega)
    obtain ⟨σ3, c1, c2, c3, c4⟩ := zc_add (F := F) (x := c) (by omega) b2 (by omega)
    obtain ⟨σ4, d1, d2, d3, d4⟩ := zc_add (F := F) (x := d) (by omega) c2 (by omega)
    obtain ⟨σ5, e1, e2, e3, e4⟩ := zc_add (F := F) (x := e) (by omega) d2 (by omega)
    have fr : ∀ q j, q ≠ 2 → ¬ (q = 1 ∧ j = 1) → σ5 q j = σ q j := fun q j h1 h2 => by rw [e4 q j h1 h2, d4 q j h1 h2, c4 q j h1 h2, b4 q j h1 h2, a4 q j h1 h2]
    have m0 : σ5 86 1 = (l : Int) := by rw [fr 86 1 (by decide) (by decide), t1, el]
    obtain ⟨τ1, f1, f2, f3, f4⟩ := zr_put (F := F) (x := a) (by omega) m0 (by omega)
    obtain ⟨τ2, g1, g2, g3, g4⟩ := zr_put (F := F) (x := b) (by omega) f2 (by omega)
    obtain ⟨τ3, h1, h2, h3, h4⟩ := zr_put (F := F) (x := c) (by omega) g2 (by omega)
    obtain ⟨τ4, i1, i2, i3, i4⟩ := zr_put (F := F) (x := d) (by omega) h2 (by omega)
    obtain ⟨τ5, j1, j2, j3, j4⟩ := zr_put (F := F) (x := e) (by omega) i2 (by omega)
    have gr : ∀ q j, q ≠ 87 → ¬ (q = 86 ∧ j = 1) → τ5 q j = σ5 q j := fun q j y1 y2 => by rw [j4 q j y1 y2, i4 q j y1 y2, h4 q j y1 y2, g4 q j y1 y2, f4 q j y1 y2]
    refine ⟨((l + 4 + 4 + 4 + 4 + 4 : Nat) : Int), σ5, τ5, p, s, ?_, ?_, ?_⟩
    · unfold g_X11_feed
      refine e_mob (r := 1) (σ := σ) ?_ ?_
      · unfold g_X7_hasSpaceFor g_X7_hasSpaceFor_b17
        rw [el, mw_id (z := 1600) (by omega) (by omega), mw_id (z := (l : Int) + 20) (by omega) (by omega)]
        exact e_f (by omega) (e_t (by decide) rfl)
      · refine e_t (by decide) (e_mob a1 (e_mob b1 (e_mob c1 (e_mob d1 (e_mob e1 ?_)))))
        rw [e2]
    · unfold g_X12_feed
      rw [m0, mw_id (z := 1600) (by omega) (by omega), mw_id (z := (l : Int) + 20) (by omega) (by omega)]
      refine e_t (by omega) (e_mob f1 (e_mob g1 (e_mob h1 (e_mob i1 (e_mob j1 ?_)))))
      rw [j2]
    · refine r.tape (fun q j q2 q87 q1 q86 => by rw [gr q j q87 q86, fr q j q2 q1]) ?_
      unfold RT
      rw [j2, gr 1 1 (by decide) (by decide), e2]
      refine ⟨rfl, by omega, fun j hj => ?_⟩
      rw [gr 2 j (by decide) (by omega), j3, i3, h3, g3, f3, e3, d3, c3, b3, a3, fr 87 j (by decide) (by omega)]
      by_cases k5 : l + 4 + 4 + 4 + 4 ≤ j ∧ j < l + 4 + 4 + 4 + 4 + 4
      · rw [if_pos k5, if_pos k5]; exact ⟨rfl, mand_255 _⟩
      · rw [if_neg k5, if_neg k5]
        by_cases k4 : l + 4 + 4 + 4 ≤ j ∧ j < l + 4 + 4 + 4 + 4
        · rw [if_pos k4, if_pos k4]; exact ⟨rfl, mand_255 _⟩
        · rw [if_neg k4, if_neg k4]
          by_cases k3 : l + 4 + 4 ≤ j ∧ j < l + 4 + 4 + 4
          · rw [if_pos k3, if_pos k3]; exact ⟨rfl, mand_255 _⟩
          · rw [if_neg k3, if_neg k3]
            by_cases k2 : l + 4 ≤ j ∧ j < l + 4 + 4
            · rw [if_pos k2, if_pos k2]; exact ⟨rfl, mand_255 _⟩
            · rw [if_neg k2, if_neg k2]
              by_cases k1 : l ≤ j ∧ j < l + 4
              · rw [if_pos k1, if_pos k1]; exact ⟨rfl, mand_255 _⟩
              · rw [if_neg k1, if_neg k1]
                exact t3 j (by omega)
  · refine ⟨-1, mup σ 85 0 (σ 85 0 + 1), mup (mup σ 85 0 (σ 85 0 + 1)) 109 0 (σ 109 0 + 1), p, s, ?_, ?_, r.refuse⟩
    · unfold g_X11_feed
      refine e_mob (r := 0) (σ := σ) ?_ (e_f (by decide) (e_mob (zc_refuse (k := 0) (by decide)) rfl))
      unfold g_X7_hasSpaceFor g_X7_hasSpaceFor_b17
      rw [el, mw_id (z := 1600) (by omega) (by omega), mw_id (z := (l : Int) + 20) (by omega) (by omega)]
      exact e_t (by omega) (e_t (by decide) rfl)
    · unfold g_X12_feed
      rw [mup_off (show (86 : Nat) ≠ 85 by decide), t1, el, mw_id (z := 1600) (by omega) (by omega), mw_id (z := (l : Int) + 20) (by omega) (by omega)]
      refine e_f (by omega) (e_mob (zr_refuses (k := 0) (by decide)) ?_)
      rw [mup_off (show (109 : Nat) ≠ 85 by decide)]
theorem pku {a b c d : Int} (h : KOK a b c d) : mshr (pk a b c d) 11 = a ∧ mand (mshr (pk a b c d) 8) 7 = b ∧ mand (pk a b c d) 15 = c ∧ mand (mshr (pk a b c d) 4) 15 = d := by
  obtain ⟨h1, h2, h3, h4⟩ := h
  unfold pk
  refine ⟨?_, ?_, ?_, ?_⟩
  · rw [mshr_n 11 (by omega) (by omega) (by decide)]; omega
  · rw [mshr_n 8 (by omega) (by omega) (by decide), mand_mask 3 (by omega) (by omega) (by decide) (by decide)]; omega
  · rw [mand_mask 4 (by omega) (by omega) (by decide) (by decide)]; omega
  · rw [mshr_n 4 (by omega) (by omega) (by decide), mand_mask 4 (by omega) (by omega) (by decide) (by decide)]; omega
theorem a_kept {F : Nat} {σ : mMem} {p s : Nat} {N x y : Int} (hx : i32 x) (hy : i32 y) (hN : N ≤ 10000) (r : Rel σ p s N) : Alk (g_X11_kept F x y) (g_X12_kept F x y) σ N := by
  have sm := r.same (N' := N + 1) (by omega) (fun _ _ _ => rfl) (fun _ _ _ => rfl)
  obtain ⟨-, -, -, ⟨k1, k2, k3⟩, k4⟩ := r.2.2.2.2.2.1.1
  have et : g_X3_told F σ = some (min 60 (σ 54 2), σ) := by
    unfold g_X3_told
    refine e_mob (z_min (by omega)) ?_
    rw [Int.min_comm]
  by_cases c : 0 ≤ x ∧ x < min 60 (σ 54 2)
  · have kk := k3 x.toNat (by omega)
    rw [show ((x.toNat : Nat) : Int) = x by omega, Nat.mul_zero, Nat.zero_add] at kk
    obtain ⟨u1, u2, u3, u4⟩ := pku kk.1
    have hc : ∀ X, (if mw y = 0 then (some (mshr (σ 76 ((σ 54 2 - min 60 (σ 54 2) + x) % 60).toNat) 11, σ)) else (if mw y = 1 then (some (mand (mshr (σ 76 ((σ 54 2 - min 60 (σ 54 2) + x) % 60).toNat) 8) 7, σ)) else (if mw y = 2 then (some (mand (σ 76 ((σ 54 2 - min 60 (σ 54 2) + x) % 60).toNat) 15, σ)) else (if mw y = 3 then (some (mand (mshr (σ 76 ((σ 54 2 - min 60 (σ 54 2) + x) % 60).toNat) 4) 15, σ)) else (some ((-1), σ)))))) = X → g_X11_kept F x y σ = X := by
      intro X hX
      have hk : g_X3_keptPart F x y σ = X := by
        unfold g_X3_keptPart
        refine e_f (by rw [mw_id (by omega) (by omega)]; omega) (e_mob et ?_)
        refine e_t (by rw [mw_id (by omega) (by omega), mw_id (by omega) (by omega)]; omega) (e_mob et (e_mob (z_fmod (by omega) (by decide)) ?_))
        rw [mw_id (z := (σ 54 2 - min 60 (σ 54 2) + x) % 60) (by omega) (by omega)]
        exact e_t (by omega) (e_let hX)
      unfold g_X11_kept
      rw [hk, ← hX]
      by_cases y0 : mw y = 0
      · rw [if_pos y0]; rfl
      · rw [if_neg y0]
        by_cases y1 : mw y = 1
        · rw [if_pos y1]; rfl
        · rw [if_neg y1]
          by_cases y2 : mw y = 2
          · rw [if_pos y2]; rfl
          · rw [if_neg y2]
            by_cases y3 : mw y = 3
            · rw [if_pos y3]; rfl
            · rw [if_neg y3]; rfl
    have hr : ∀ X, ((if mw (mb (0 ≤ y ∧ y ≤ 3)) = 0 then (g_X12_kept_b38 F σ) else (if 0 ≤ mw ((4 * x) + y) ∧ mw ((4 * x) + y) < (5280 : Int) then g_X12_kept_b39 F (σ 118 (mw ((4 * x) + y)).toNat) σ else none))) = X → g_X12_kept F x y σ = X := by
      intro X hX
      unfold g_X12_kept
      rw [show (mw 0).toNat = 0 by decide, k2]
      refine e_t (by decide) (e_mob (zr_isi (by omega)) ?_)
      rw [mb_t (by omega)]
      exact e_f (by decide) (e_mob (zr_isi (by omega)) hX)
    rw [kk.2, mw_id (z := y) (by omega) (by omega)] at hc
    by_cases cy : 0 ≤ y ∧ y ≤ 3
    · refine ⟨σ 118 (4 * x.toNat + y.toNat), σ, σ, p, s, hc _ ?_, hr _ ?_, sm⟩
      · rcases (by omega : y = 0 ∨ y = 1 ∨ y = 2 ∨ y = 3) with rfl | rfl | rfl | rfl
        · rw [if_pos rfl, u1]; rfl
        · rw [if_neg (by decide), if_pos rfl, u2]; rfl
        · rw [if_neg (by decide), if_neg (by decide), if_pos rfl, u3]; rfl
        · rw [if_neg (by decide), if_neg (by decide), if_neg (by decide), if_pos rfl, u4]; rfl
      · rw [mb_t cy, mw_id (z := 4 * x + y) (by omega) (by omega)]
        refine e_f (by decide) (e_t (by omega) ?_)
        rw [show (4 * x + y).toNat = 4 * x.toNat + y.toNat by omega]
        rfl
    · refine ⟨-1, σ, σ, p, s, hc _ ?_, hr _ ?_, sm⟩
      · rw [if_neg (by omega), if_neg (by omega), if_neg (by omega), if_neg (by omega)]
      · rw [mb_f cy]
        exact e_t (by decide) rfl
  · refine ⟨-1, σ, σ, p, s, ?_, ?_, sm⟩
    · have hk : g_X3_keptPart F x y σ = some (-1, σ) := by
        unfold g_X3_keptPart g_X3_keptPart_b12
        by_cases c0 : x < 0
        · exact e_t (by rw [mw_id (by omega) (by omega)]; exact c0) rfl
        · refine e_f (by rw [mw_id (by omega) (by omega)]; exact c0) (e_mob et ?_)
          exact e_f (by rw [mw_id (by omega) (by omega), mw_id (by omega) (by omega)]; omega) rfl
      exact e_mob hk rfl
    · unfold g_X12_kept g_X12_kept_b38 g_X12_kept_b39
      rw [show (mw 0).toNat = 0 by decide, k2]
      refine e_t (by decide) (e_mob (zr_isi (by omega)) ?_)
      rw [mb_f (by omega)]
      exact e_t (by decide) rfl
