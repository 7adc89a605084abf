/-! LAYER 2: wheel -/
theorem xP_c {π π' : mMem} {p n b w i : Nat} {lamp step last : Int} {A A' : Nat → Nat → Int} (hp : PEq π π' p) (hn : (π p 11).toNat = n) (hb : b < n) (hA : ∀ k, k < n → BEq (A k) (A' k)) : xP π p n lamp step A b last w i = xP π' p n lamp step A' b last w i := by
  have := xIt_c (lamp := lamp) (step := step) (delay := 0) hp hn (A := xWh A b (w : Int)) (A' := xWh A' b (w : Int)) (fun k hk g hg => by
    unfold xWh
    by_cases c : k = b ∧ g = 7
    · rw [if_pos c, if_pos c]
    · rw [if_neg c, if_neg c]; exact hA k hk g hg) i b hb
  unfold xP
  rw [this 0 (by decide), this 1 (by decide)]
theorem xP_rng {π : mMem} {p n b w i : Nat} {lamp step last : Int} {A : Nat → Nat → Int} (hC : π p 9 ≤ 9) (hR : π p 10 ≤ 9) (hb : b < n) (hw : w < 10) (hA : ∀ j, j < n → BR (π p 9) (π p 10) (A j)) : -1 ≤ xP π p n lamp step A b last w i ∧ xP π p n lamp step A b last w i ≤ 100 := by
  have := (xIt_BR (lamp := lamp) (step := step) (delay := 0) (xWh_BR (b := b) (w := (w : Int)) (by omega) hA) i b hb).c9 hC hR
  unfold xP
  split <;> omega
theorem zr_h24 {F p s n b T : Nat} {σ : mMem} {N last : Int} {tm pl : Nat → Int} (hF : 2000 ≤ F) (r : Rel σ p s N) (q : QC σ p n (σ 20 5) (σ 20 4) 0 (cB σ 21)) (hb : b < n) (hlast : last = min 40 (999 - σ 20 4)) (hT : T ≤ 16) (h66 : σ 86 66 = (T : Int)) (h3 : ∀ k, k < T → (σ 122 k = tm k ∧ 0 ≤ tm k ∧ tm k ≤ 40) ∧ σ 123 k = pl k ∧ 0 ≤ pl k ∧ pl k ≤ 100) : ∀ (d w : Nat) (τ : mMem), d + w = 10 → TryH τ σ → τ 86 57 = -1 → τ 86 60 = -1 → τ 86 62 = 0 → (∀ w', w' < w → ∀ j, j ≤ 40 → τ 124 (41 * w' + j) = xP σ p n (σ 20 5) (σ 20 4) (cB σ 21) b last w' j) → ∃ τ', TryH τ' σ ∧ τ' 86 57 = -1 ∧ τ' 86 60 = -1 ∧ τ' 86 62 = 0 ∧ (∀ w', w' < 10 → ∀ j, j ≤ 40 → τ' 124 (41 * w' + j) = xP σ p n (σ 20 5) (σ 20 4) (cB σ 21) b last w' j) ∧ ∀ (fuel : Nat) (what : Int), d < fuel → g_X12_wheel_h24 F fuel (b : Int) what (xLf (fun w i => xP σ p n (σ 20 5) (σ 20 4) (cB σ 21) b last w i) T tm pl w) (w : Int) τ = (if ¬ mw what = 0 then (g_X12_wheel_h81 F F (xLf (fun w i => xP σ p n (σ 20 5) (σ 20 4) (cB σ 21) b last w i) T tm pl 10) (-1) 100000000 1 τ') else (some (xLf (fun w i => xP σ p n (σ 20 5) (σ 20 4) (cB σ 21) b last w i) T tm pl 10, τ'))) := by
  intro d
  induction d with
  | zero =>
    intro w τ e1 g e57 e60 e62 e5
    have ew : w = 10 := by omega
    subst ew
    refine ⟨τ, g, e57, e60, e62, e5, fun fuel what hf => ?_⟩
    obtain ⟨f, rfl⟩ : ∃ f, fuel = f + 1 := ⟨fuel - 1, by omega⟩
    unfold g_X12_wheel_h24
    exact e_t (by decide) rfl
  | succ d ih =>
    intro w τ e1 g e57 e60 e62 e5
    obtain ⟨τ1, a1, a2, a3, a4, a5, a6, a7⟩ := zr_walks (F := F) (w := w) hF r q (by omega) hb hlast g e57 e62
    obtain ⟨τ', t1, t2, t3, t4, t5, t6⟩ := ih (w + 1) τ1 (by omega) a2 a6 a5 a7 (fun w' hw' j hj => by
      by_cases c : w' = w
      · rw [c]; exact a4 j hj
      · rw [a3 _ (by omega)]; exact e5 w' (by omega) j hj)
    refine ⟨τ', t1, t2, t3, t4, t5, fun fuel what hf => ?_⟩
    obtain ⟨f, rfl⟩ : ∃ f, fuel = f + 1 := ⟨fuel - 1, by omega⟩
    have it : g_X12_isTrack F (w : Int) τ1 = some (mb (∀ j, j < T → xP σ p n (σ 20 5) (σ 20 4) (cB σ 21) b last w (tm j).toNat = pl j), τ1) := zr_fits (F := F) (P := fun w i => xP σ p n (σ 20 5) (σ 20 4) (cB σ 21) b last w i) (by omega) (by rw [a2.2.2.1 66 (by decide)]; exact h66) hT (fun k hk => by rw [a2.2.1 122 (by decide) (by decide), a2.2.1 123 (by decide) (by decide)]; exact h3 k hk) (fun j hj => ⟨a4 j hj, xP_rng q.2.1.1.2 q.2.1.2.1.2 hb (by omega) q.2.2.2.2.2.2⟩) T 0 F (by omega) (by omega) (fun j hj => absurd hj (by omega))
    rw [← t6 f what (by omega)]
    conv => lhs; unfold g_X12_wheel_h24 g_X12_wheel_b56
    refine e_f (by rw [mw_id (by omega) (by omega), mw_id (by omega) (by omega)]; omega) (e_mob a1 (e_mob it ?_))
    rw [show ((w + 1 : Nat) : Int) = (w : Int) + 1 by omega]
    show _ = g_X12_wheel_h24 F f (b : Int) what (mor (xLf (fun w i => xP σ p n (σ 20 5) (σ 20 4) (cB σ 21) b last w i) T tm pl w) (if ∀ j, j < T → xP σ p n (σ 20 5) (σ 20 4) (cB σ 21) b last w (tm j).toNat = pl j then mshl 1 (w : Int) else 0)) ((w : Int) + 1) τ1
    by_cases c : ∀ j, j < T → xP σ p n (σ 20 5) (σ 20 4) (cB σ 21) b last w (tm j).toNat = pl j
    · rw [mb_t c, if_pos c]
      exact e_f (by decide) (e_let rfl)
    · rw [mb_f c, if_neg c]
      exact e_t (by decide) (e_let rfl)
theorem whl_rd {σ σ0 : mMem} (h : ∀ q, ¬ (37 ≤ q ∧ q ≤ 53) → σ q = σ0 q) : (∀ q j, Rd q j → σ q j = σ0 q j) ∧ (∀ q j, Rs q j → σ q j = σ0 q j) := by
  constructor
  · intro q j hq
    rw [h q ?_]
    rcases hq with hq | hq | hq | hq | hq | hq | hq <;> omega
  · intro q j hq
    rw [h q ?_]
    omega
theorem a_wheel {F : Nat} {σ : mMem} {p s : Nat} {N x y : Int} (hF : 2000 ≤ F) (hx : i32 x) (hy : i32 y) (r : Rel σ p s N) : Alk (g_X11_wheel F x y) (g_X12_wheel F x y) σ N := by
  have sm := r.same (N' := N + 1) (by omega) (fun _ _ _ => rfl) (fun _ _ _ => rfl)
  obtain ⟨hp, h08, h08n, h20, h20n, hP, hR, h11, h9, h10, hB, hst, hla, h57, h60, h62⟩ := r.now
  obtain ⟨n, q, h3, -, -, -⟩ := r.q
  have n11 := q.2.2.1
  have n6 := q.1.1
  unfold Alk g_X11_wheel g_X12_wheel g_X11_wheel_b51 g_X12_wheel_b17
  rw [h08n]
  simp only [if_pos h08, zc_hasBox hx h11, mob_sm, mw_id hy.1 hy.2, mw1']
  by_cases c1 : 0 ≤ x ∧ x < σ p 11
  · by_cases c2 : 0 ≤ y ∧ y ≤ 1
    · obtain ⟨b, eb⟩ : ∃ b : Nat, x = (b : Int) := ⟨x.toNat, by omega⟩
      subst eb
      have hb : b < n := by omega
      obtain ⟨w1, w2, w3⟩ := r.2.2.2.2.2.2.2.1
      obtain ⟨T, hT⟩ : ∃ T : Nat, σ 35 3 = (T : Int) := ⟨(σ 35 3).toNat, by omega⟩
      obtain ⟨σ1, a1, a2, a3⟩ := zc_follow (F := F) (p := p) (n := n) (b := b) (last := min 40 (999 - σ 20 4)) hF hb rfl q h3
      have w := whl_rd a2
      have r1 : Rel σ1 p s N := r.same (Int.le_refl _) w.1 w.2
      have e20 : σ1 20 = σ 20 := a2 20 (by decide)
      have e21 : cB σ1 21 = cB σ 21 := by
        funext j g
        dsimp only [cB]
        rw [a2 21 (by decide)]
      have ep : σ1 p = σ p := a2 p (by omega)
      have pe : PEq σ1 σ p := ⟨ep, a2 (p + 1) (by omega), a2 (p + 4) (by omega)⟩
      obtain ⟨n', q1, h31, -, -, -⟩ := r1.q
      have en : n' = n := by
        have := q1.2.2.1
        rw [ep] at this
        omega
      subst en
      have xc : ∀ w i, xP σ1 p n' (σ1 20 5) (σ1 20 4) (cB σ1 21) b (min 40 (999 - σ1 20 4)) w i = xP σ p n' (σ 20 5) (σ 20 4) (cB σ 21) b (min 40 (999 - σ 20 4)) w i := fun w i => by
        rw [e20, e21]
        exact xP_c pe (by rw [ep]; omega) hb (fun _ _ _ _ => rfl)
      have tol : Tol σ1 T (fun k => σ 36 (3 * k)) (fun k => 9 * σ 36 (3 * k + 2) + σ 36 (3 * k + 1)) := by
        refine ⟨by rw [a2 35 (by decide)]; exact hT, by omega, fun k hk => ?_⟩
        obtain ⟨g1, g2, g3, g4⟩ := w3 k (by omega)
        rw [a2 36 (by decide)]
        refine ⟨⟨rfl, g1.2⟩, rfl, ?_⟩
        show 0 ≤ 9 * σ 36 (3 * k + 2) + σ 36 (3 * k + 1) ∧ 9 * σ 36 (3 * k + 2) + σ 36 (3 * k + 1) ≤ 100
        omega
      have rng : ∀ w, w < 10 → ∀ i, -1 ≤ xP σ p n' (σ 20 5) (σ 20 4) (cB σ 21) b (min 40 (999 - σ 20 4)) w i ∧ xP σ p n' (σ 20 5) (σ 20 4) (cB σ 21) b (min 40 (999 - σ 20 4)) w i ≤ 100 := fun w hw i => xP_rng h9.2 h10.2 hb hw q.2.2.2.2.2.2
      have left := zc_left (F := F) (T := T) (σ := σ1) (P := fun w i => xP σ p n' (σ 20 5) (σ 20 4) (cB σ 21) b (min 40 (999 - σ 20 4)) w i) hF tol (fun w hw j hj => ⟨a3 w hw j hj, rng w hw j⟩)
      obtain ⟨τ, b1, b2, b3, b4, b5, b6⟩ := zr_h24 (F := F) (b := b) (T := T) (σ := σ1) (last := min 40 (999 - σ1 20 4)) (tm := fun k => σ 36 (3 * k)) (pl := fun k => 9 * σ 36 (3 * k + 2) + σ 36 (3 * k + 1)) hF r1 q1 hb rfl (by omega) (by rw [a2 86 (by decide), w1, hT]) (fun k hk => by
        obtain ⟨g1, g2, g3, g4⟩ := w3 k (by omega)
        rw [a2 122 (by decide), a2 123 (by decide)]
        exact ⟨g1, g2, by omega⟩) 10 0 σ1 (by omega) TryH.rfl' (by rw [a2 86 (by decide)]; exact h57) (by rw [a2 86 (by decide)]; exact h60) (by rw [a2 86 (by decide)]; exact h62) (fun w' hw' => absurd hw' (by omega))
      have fx : (fun w i => xP σ1 p n' (σ1 20 5) (σ1 20 4) (cB σ1 21) b (min 40 (999 - σ1 20 4)) w i) = (fun w i => xP σ p n' (σ 20 5) (σ 20 4) (cB σ 21) b (min 40 (999 - σ 20 4)) w i) := by
        funext w i
        exact xc w i
      rw [fx] at b6
      have fin := (r1.h (n := n') (by rw [ep]; exact n11) b1).2.2.2.2.2.2 b2 b3 b4
      have hR1 : PlR σ p σ1 := hR.same (fun q q1 q2 => a2 q (by omega)) (by rw [a2 86 (by decide)])
      obtain ⟨D, eD⟩ : ∃ D, D = xLf (fun w i => xP σ p n' (σ 20 5) (σ 20 4) (cB σ 21) b (min 40 (999 - σ 20 4)) w i) T (fun k => σ 36 (3 * k)) (fun k => 9 * σ 36 (3 * k + 2) + σ 36 (3 * k + 1)) 10 := ⟨_, rfl⟩
      rw [← eD] at left b6
      by_cases c3 : y = 0
      · refine ⟨D, σ1, τ, p, s, ?_, e_mob (zr_isBox hx hR1 h11) ?_, fin⟩
        · rw [mb_t c1]
          refine e_t (by decide) (e_f (fun e => e c3) (e_mob ?_ rfl))
          unfold g_X9_biasBits
          exact e_mob a1 (e_mob left rfl)
        · rw [mb_t c1]
          refine e_f (by decide) (e_mob (zr_isi (by omega)) ?_)
          rw [mb_t c2]
          refine e_t (by decide) ((b6 F y (by omega)).trans ?_)
          exact if_neg (by rw [c3]; decide)
      · have y1 : y = 1 := by omega
        obtain ⟨v, v1, v2⟩ := j_te (F := F) (σ := σ1) (τ := τ) (P := fun w i => xP σ p n' (σ 20 5) (σ 20 4) (cB σ 21) b (min 40 (999 - σ 20 4)) w i) (D := D) (last := min 40 (999 - σ 20 4)) (step := σ 20 4) hF hst.2 (by rw [b1.2.2.2.1 110 (by decide) 0 (by decide), a2 110 (by decide)]; exact hst.1) rfl (fun w hw i hi => ⟨⟨a3 w hw i hi, by rw [b5 w hw i hi]; exact xc w i⟩, rng w hw i⟩) (min 40 (999 - σ 20 4)).toNat 0 F (-1) 11 100000000 (by omega) (by omega) (Or.inl ⟨rfl, rfl⟩)
        refine ⟨v, σ1, τ, p, s, ?_, e_mob (zr_isBox hx hR1 h11) ?_, fin⟩
        · rw [mb_t c1]
          refine e_t (by decide) (e_t c3 (e_f (fun e => e y1) (e_mob ?_ rfl)))
          unfold g_X9_tellingSteps
          refine e_mob a1 (e_mob left (e_mob (zc_coming (by rw [e20]; exact hst.2) (by decide)) ?_))
          rw [e20]
          exact v1
        · rw [mb_t c1]
          refine e_f (by decide) (e_mob (zr_isi (by omega)) ?_)
          rw [mb_t c2]
          refine e_t (by decide) ((b6 F y (by omega)).trans ?_)
          exact (if_pos (by rw [y1]; decide)).trans v2
    · refine ⟨-1, σ, σ, p, s, ?_, e_mob (zr_isBox hx hR h11) ?_, sm⟩
      · rw [mb_t c1]
        exact e_t (by decide) (e_t (by omega) (e_t (by omega) rfl))
      · rw [mb_t c1]
        refine e_f (by decide) (e_mob (zr_isi (by omega)) ?_)
        rw [mb_f c2]
        exact e_f (by decide) rfl
  · refine ⟨-1, σ, σ, p, s, ?_, e_mob (zr_isBox hx hR h11) ?_, sm⟩
    · rw [mb_f c1]
      exact e_f (by decide) rfl
    · rw [mb_f c1]
      exact e_t (by decide) rfl
