/-! LAYER 2: wheel, the class walks -/
def xWh (A : Nat → Nat → Int) (b : Nat) (w : Int) (j f : Nat) : Int := if j = b ∧ f = 7 then w else A j f
theorem xWh_BR {C R : Int} {A : Nat → Nat → Int} {b n : Nat} {w : Int} (hw : 0 ≤ w ∧ w ≤ 9) (hA : ∀ j, j < n → BR C R (A j)) : ∀ j, j < n → BR C R (xWh A b w j) := by
  intro j hj
  obtain ⟨b0, b2, b3, b4, b5, b6, b7, b8⟩ := hA j hj
  have ne : ∀ f, f ≠ 7 → xWh A b w j f = A j f := fun f hf => by unfold xWh; rw [if_neg (fun e => hf e.2)]
  have t7 : 0 ≤ xWh A b w j 7 ∧ xWh A b w j 7 ≤ 9 := by
    unfold xWh
    split
    · exact hw
    · exact b7
  unfold BR
  rw [ne 0 (by decide), ne 1 (by decide), ne 2 (by decide), ne 3 (by decide), ne 4 (by decide), ne 5 (by decide), ne 6 (by decide), ne 8 (by decide)]
  exact ⟨b0, b2, b3, b4, b5, b6, t7, b8⟩
/-- where box b is after i steps, its wheel off by w; -1 past the last -/
def xP (π : mMem) (p n : Nat) (lamp step : Int) (A : Nat → Nat → Int) (b : Nat) (last : Int) (w i : Nat) : Int := if (i : Int) ≤ last then 9 * xIt π p n lamp step 0 (xWh A b (w : Int)) i b 1 + xIt π p n lamp step 0 (xWh A b (w : Int)) i b 0 else -1
theorem zc_fill {F a : Nat} {σ : mMem} {v : Int} {L : Nat} (hF : 2000 ≤ F) (hL : L ≤ 400) : ∃ σ', g_J7_fill_53178 F a L v σ = some (0, σ') ∧ (∀ q, q ≠ a → σ' q = σ q) ∧ ∀ j, j < L → σ' a j = v := by
  have key : ∀ (d i fuel : Nat) (υ : mMem), d + i = L → d < fuel → (∀ q, q ≠ a → υ q = σ q) → (∀ j, j < i → υ a j = v) → ∃ σ', g_J7_fill_53178_h5 F a L fuel v (i : Int) (L : Int) υ = some (0, σ') ∧ (∀ q, q ≠ a → σ' q = σ q) ∧ ∀ j, j < L → σ' a j = v := by
    intro d
    induction d with
    | zero =>
      intro i fuel υ e1 e2 e3 e4
      obtain ⟨f, rfl⟩ : ∃ f, fuel = f + 1 := ⟨fuel - 1, by omega⟩
      refine ⟨υ, ?_, e3, fun j hj => e4 j (by omega)⟩
      unfold g_J7_fill_53178_h5
      exact e_t (by rw [mw_id (by omega) (by omega), mw_id (by omega) (by omega)]; omega) rfl
    | succ d ih =>
      intro i fuel υ e1 e2 e3 e4
      obtain ⟨f, rfl⟩ : ∃ f, fuel = f + 1 := ⟨fuel - 1, by omega⟩
      obtain ⟨σ', t1, t2⟩ := ih (i + 1) f (mup υ a i v) (by omega) (by omega) (fun q hq => by rw [mup_off hq]; exact e3 q hq) (fun j hj => by
        by_cases c : j = i
        · rw [mup_at rfl c]
        · rw [mup_ne (by omega)]; exact e4 j (by omega))
      refine ⟨σ', ?_, t2⟩
      rw [← t1]
      conv => lhs; unfold g_J7_fill_53178_h5
      rw [mwN (i := i) (by omega), show ((i + 1 : Nat) : Int) = (i : Int) + 1 by omega]
      exact e_f (by rw [mw_id (by omega) (by omega), mw_id (by omega) (by omega)]; omega) (e_t (by rw [mw_id (by omega) (by omega)]; omega) (e_mem rfl))
  obtain ⟨σ', t1, t2⟩ := key L 0 F σ (by omega) (by omega) (fun _ _ => rfl) (fun j hj => absurd hj (by omega))
  exact ⟨σ', e_let t1, t2⟩
theorem zc_place {F b : Nat} {υ : mMem} {B : Nat → Int} (hb : b < 6) (h : BEq (cB υ (48 + 1) b) B) : g_X9_placeOf F (b : Int) υ = some (9 * B 1 + B 0, υ) := by
  unfold g_X9_placeOf
  refine e_mob (zo_1 hb) (e_mob (zo_0 hb) ?_)
  rw [show υ (48 + 1) (10 * b + 1) = B 1 from h 1 (by decide), show υ (48 + 1) (10 * b + 0) = B 0 from h 0 (by decide), show B 1 * 9 = 9 * B 1 by omega]
/-- the walk goes on: at i, i - 1 steps made -/
theorem zc_w51 {F p n b w : Nat} {π : mMem} {lamp step last : Int} {A : Nat → Nat → Int} (hF : 2000 ≤ F) (hw : w < 10) (hb : b < n) (hlast : last = min 40 (999 - step)) (q : QC π p n lamp step 0 (xWh A b (w : Int))) : ∀ (d i fuel : Nat) (υ : mMem), (d : Int) + i = last → d < fuel → PEq υ π p → CR π p n lamp step 0 (xWh A b (w : Int)) i 48 υ υ → (∀ j, j < i + 1 → υ (38 + w) j = xP π p n lamp step A b last w j) → (∀ j, i < j → j ≤ 40 → υ (38 + w) j = -1) → ∃ υ', (∀ k10 : Int → Int → Int → mMem → mRs, g_X9_followAll_h51 F 20 k10 fuel (b : Int) last (w : Int) ((i + 1 : Nat) : Int) υ = k10 (b : Int) last ((w : Int) + 1) υ') ∧ (∀ q, q ≠ 38 + w → ¬ (48 ≤ q ∧ q ≤ 53) → υ' q = υ q) ∧ ∀ j, j ≤ 40 → υ' (38 + w) j = xP π p n lamp step A b last w j := by
  have n6 := q.1.1
  have hp := q.1.2
  have hs := q.2.2.2.2.1
  intro d
  induction d with
  | zero =>
    intro i fuel υ e1 e2 e3 e4 e5 e6
    obtain ⟨f, rfl⟩ : ∃ f, fuel = f + 1 := ⟨fuel - 1, by omega⟩
    refine ⟨υ, fun k10 => ?_, fun _ _ _ => rfl, fun j hj => ?_⟩
    · unfold g_X9_followAll_h51 g_X9_followAll_b99
      exact e_t (by rw [mw_id (by omega) (by omega), mw_id (by omega) (by omega)]; omega) rfl
    · by_cases c : j < i + 1
      · exact e5 j c
      · rw [e6 j (by omega) hj]
        unfold xP
        rw [if_neg (by omega)]
  | succ d ih =>
    intro i fuel υ e1 e2 e3 e4 e5 e6
    obtain ⟨f, rfl⟩ : ∃ f, fuel = f + 1 := ⟨fuel - 1, by omega⟩
    obtain ⟨υ1, a1, a2, -⟩ := zc_try (F := F) (p := p) (n := n) (m := i) (o := 48) (π := π) (σ := υ) (σ0 := υ) (lamp := lamp) (step := step) (delay := 0) (made := 0) (A := xWh A b (w : Int)) n6 hF hp (by decide) e3 q.2.1 q.2.2.1 q.2.2.2.1 (by omega) (by decide) (by decide) (fun _ _ => made0) q.2.2.2.2.2.2 e4
    obtain ⟨f1, f2, f3, f4, f5⟩ := a2
    obtain ⟨υ2, eu⟩ : ∃ y, y = mup υ1 (38 + w) (i + 1) (9 * xIt π p n lamp step 0 (xWh A b (w : Int)) (i + 1) b 1 + xIt π p n lamp step 0 (xWh A b (w : Int)) (i + 1) b 0) := ⟨_, rfl⟩
    have o2 : ∀ q, q ≠ 38 + w → υ2 q = υ1 q := fun q hq => by rw [eu, mup_off hq]
    have row1 : υ1 (38 + w) = υ (38 + w) := f1 _ (by omega)
    obtain ⟨υ', t1, t2, t3⟩ := ih (i + 1) f υ2 (by omega) (by omega) ⟨by rw [o2 p (by omega), f1 p (by omega)]; exact e3.1, by rw [o2 _ (by omega), f1 _ (by omega)]; exact e3.2.1, by rw [o2 _ (by omega), f1 _ (by omega)]; exact e3.2.2⟩ ⟨fun _ _ => rfl, fun j hj g hg => by
        show υ2 49 (10 * j + g) = _
        rw [o2 49 (by omega)]
        exact f2 j hj g hg, by rw [o2 48 (by omega)]; exact f3, by rw [o2 48 (by omega)]; exact f4, by rw [o2 48 (by omega)]; exact f5⟩ (fun j hj => by
        by_cases c : j = i + 1
        · rw [c, eu, mup_at rfl rfl]
          unfold xP
          rw [if_pos (by omega)]
        · rw [eu, mup_ne (by omega), row1]
          exact e5 j (by omega)) (fun j j1 j2 => by
        rw [eu, mup_ne (by omega), row1]
        exact e6 j (by omega) j2)
    refine ⟨υ', fun k10 => ?_, fun q q1 q2 => by rw [t2 q q1 q2, o2 q q1, f1 q (by omega)], t3⟩
    rw [← t1 k10]
    conv => lhs; unfold g_X9_followAll_h51
    refine e_f (by rw [mw_id (by omega) (by omega), mw_id (by omega) (by omega)]; omega) (e_f (by rw [mw_id (by omega) (by omega), mw_id (by omega) (by omega)]; omega) (e_f (by rw [mw_id (by omega) (by omega)]; omega) (e_mob a1 ?_)))
    unfold g_X9_followAll_b78
    rw [mwN (i := w) (by omega), mwN (i := i + 1) (by omega), show 37 + 1 + w = 38 + w by omega]
    refine e_t (mwR (by omega) (by decide)) (e_mob (zc_place (by omega) (f2 b hb)) (e_t (mwR (by omega) (by decide)) (e_mem ?_)))
    rw [← eu, show ((i + 1 + 1 : Nat) : Int) = ((i + 1 : Nat) : Int) + 1 by omega]
theorem zc_w1 {F p n b w : Nat} {σ υ : mMem} {last : Int} (hF : 2000 ≤ F) (hw : w < 10) (hb : b < n) (hlast : last = min 40 (999 - σ 20 4)) (q : QC σ p n (σ 20 5) (σ 20 4) 0 (cB σ 21)) (h3 : σ 20 3 = (p : Int)) (hυ : ∀ q, ¬ (37 ≤ q ∧ q ≤ 53) → υ q = σ q) : ∃ υ', (∀ q, q ≠ 38 + w → ¬ (48 ≤ q ∧ q ≤ 53) → υ' q = υ q) ∧ (∀ j, j ≤ 40 → υ' (38 + w) j = xP σ p n (σ 20 5) (σ 20 4) (cB σ 21) b last w j) ∧ ∀ f, g_X9_followAll_h10 F 20 (f + 1) (b : Int) last (w : Int) υ = g_X9_followAll_h10 F 20 f (b : Int) last ((w : Int) + 1) υ' := by
  have n6 := q.1.1
  have hp := q.1.2
  have hs := q.2.2.2.2.1
  have qW : QC σ p n (σ 20 5) (σ 20 4) 0 (xWh (cB σ 21) b (w : Int)) := ⟨q.1, q.2.1, q.2.2.1, q.2.2.2.1, q.2.2.2.2.1, q.2.2.2.2.2.1, xWh_BR (by omega) q.2.2.2.2.2.2⟩
  obtain ⟨υ0, s1, s2, -⟩ := zc_start (F := F) (p := p) (n := n) (o := 48) (σ := υ) (π := σ) (lamp := σ 20 5) (step := σ 20 4) (delay := 0) (Or.inr (Or.inl rfl)) n6 hp (by rw [hυ 20 (by omega)]; exact h3) (by rw [hυ 20 (by omega)]) (by rw [hυ 20 (by omega)])
  have ecb : cB υ 21 = cB σ 21 := by
    funext j g
    dsimp only [cB]
    rw [hυ 21 (by omega)]
  rw [ecb] at s2
  obtain ⟨f1, f2, f3, f4, f5⟩ := s2
  obtain ⟨υ1, e1⟩ : ∃ y, y = mup υ0 (48 + 1) (10 * b + 7) (w : Int) := ⟨_, rfl⟩
  obtain ⟨υ2, c1, c2, c3⟩ := zc_fill (F := F) (a := 38 + w) (σ := υ1) (v := -1) (L := 41) hF (by decide)
  obtain ⟨υ3, e3⟩ : ∃ y, y = mup υ2 (38 + w) 0 (9 * xWh (cB σ 21) b (w : Int) b 1 + xWh (cB σ 21) b (w : Int) b 0) := ⟨_, rfl⟩
  have o1 : ∀ q, q ≠ 49 → υ1 q = υ0 q := fun q hq => by rw [e1, mup_off (by omega)]
  have o3 : ∀ q, q ≠ 38 + w → υ3 q = υ1 q := fun q hq => by rw [e3, mup_off hq, c2 q hq]
  have bx : ∀ j, j < n → BEq (cB υ1 (48 + 1) j) (xWh (cB σ 21) b (w : Int) j) := fun j hj g hg => by
    show υ1 (48 + 1) (10 * j + g) = _
    unfold xWh
    by_cases c : j = b ∧ g = 7
    · rw [if_pos c, e1, c.1, c.2, mup_at rfl rfl]
    · rw [if_neg c, e1, mup_ne (by omega)]
      exact f2 j hj g hg
  have bx2 : ∀ j, j < n → BEq (cB υ2 (48 + 1) j) (xWh (cB σ 21) b (w : Int) j) := fun j hj g hg => by
    show υ2 (48 + 1) (10 * j + g) = _
    rw [c2 _ (by omega)]
    exact bx j hj g hg
  have far : ∀ q, q ≠ 38 + w → ¬ (48 ≤ q ∧ q ≤ 53) → υ3 q = υ q := fun q g1 g2 => by rw [o3 q g1, o1 q (by omega), f1 q (by omega)]
  have pe : PEq υ3 σ p := ⟨by rw [far p (by omega) (by omega), hυ p (by omega)], by rw [far _ (by omega) (by omega), hυ _ (by omega)], by rw [far _ (by omega) (by omega), hυ _ (by omega)]⟩
  obtain ⟨lastN, eN⟩ : ∃ k : Nat, last = (k : Int) := ⟨last.toNat, by omega⟩
  have cr : CR σ p n (σ 20 5) (σ 20 4) 0 (xWh (cB σ 21) b (w : Int)) 0 48 υ3 υ3 := ⟨fun _ _ => rfl, fun j hj g hg => by
    show υ3 (48 + 1) (10 * j + g) = _
    rw [o3 _ (by omega)]
    exact bx j hj g hg, by rw [o3 48 (by omega), o1 48 (by decide)]; exact f3, by rw [o3 48 (by omega), o1 48 (by decide)]; exact f4, by rw [o3 48 (by omega), o1 48 (by decide)]; exact f5⟩
  have k5 : ∀ j, j < 0 + 1 → υ3 (38 + w) j = xP σ p n (σ 20 5) (σ 20 4) (cB σ 21) b last w j := fun j hj => by
    have : j = 0 := by omega
    subst this
    rw [e3, mup_at rfl rfl]
    unfold xP
    rw [if_pos (by omega)]
    rfl
  have k6 : ∀ j, 0 < j → j ≤ 40 → υ3 (38 + w) j = -1 := fun j j1 j2 => by rw [e3, mup_ne (by omega)]; exact c3 j (by omega)
  obtain ⟨F', hF'⟩ : ∃ k, F = k + 1 := ⟨F - 1, by omega⟩
  obtain ⟨υ', t1, t2, t3⟩ := zc_w51 (F := F) (p := p) (n := n) (b := b) (w := w) (π := σ) (A := cB σ 21) (last := last) hF hw hb hlast qW lastN 0 F' υ3 (by omega) (by omega) pe cr k5 k6
  refine ⟨υ', fun q g1 g2 => by rw [t2 q g1 g2, far q g1 g2], t3, fun f => ?_⟩
  conv => lhs; unfold g_X9_followAll_h10
  refine e_f (by rw [mw_id (by omega) (by omega), mw_id (by omega) (by omega)]; omega) (e_mob s1 (e_mob (zs_7 (by omega)) ?_))
  rw [mwN (i := w) (by omega), show 37 + 1 + w = 38 + w by omega, ← e1]
  refine e_t (mwR (by omega) (by decide)) (e_mob c1 ?_)
  have go : ∀ g, g = F' + 1 → g_X9_followAll_h51 F 20 (g_X9_followAll_h10 F 20 f) g (b : Int) last (w : Int) 0 υ2 = g_X9_followAll_h10 F 20 f (b : Int) last ((w : Int) + 1) υ' := by
    intro g hg
    subst hg
    rw [← t1 (g_X9_followAll_h10 F 20 f)]
    conv => lhs; unfold g_X9_followAll_h51 g_X9_followAll_b78
    rw [mwN (i := w) (by omega), show 37 + 1 + w = 38 + w by omega, show (mw 0).toNat = 0 by decide]
    refine e_f (by rw [mw0', mw_id (by omega) (by omega)]; omega) (e_f (by decide) (e_t (by decide) (e_t (mwR (by omega) (by decide)) (e_mob (zc_place (by omega) (bx2 b hb)) (e_t (by decide) (e_mem ?_))))))
    rw [← e3]
    rfl
  exact go F hF'
/-- all ten -/
theorem zc_follow {F p n b : Nat} {σ : mMem} {last : Int} (hF : 2000 ≤ F) (hb : b < n) (hlast : last = min 40 (999 - σ 20 4)) (q : QC σ p n (σ 20 5) (σ 20 4) 0 (cB σ 21)) (h3 : σ 20 3 = (p : Int)) : ∃ σ1, g_X9_followAll F 20 (b : Int) σ = some (0, σ1) ∧ (∀ q, ¬ (37 ≤ q ∧ q ≤ 53) → σ1 q = σ q) ∧ ∀ w, w < 10 → ∀ j, j ≤ 40 → σ1 (38 + w) j = xP σ p n (σ 20 5) (σ 20 4) (cB σ 21) b last w j := by
  have key : ∀ (d w fuel : Nat) (υ : mMem), d + w = 10 → d < fuel → (∀ q, ¬ (37 ≤ q ∧ q ≤ 53) → υ q = σ q) → (∀ w', w' < w → ∀ j, j ≤ 40 → υ (38 + w') j = xP σ p n (σ 20 5) (σ 20 4) (cB σ 21) b last w' j) → ∃ σ1, g_X9_followAll_h10 F 20 fuel (b : Int) last (w : Int) υ = some (0, σ1) ∧ (∀ q, ¬ (37 ≤ q ∧ q ≤ 53) → σ1 q = σ q) ∧ ∀ w, w < 10 → ∀ j, j ≤ 40 → σ1 (38 + w) j = xP σ p n (σ 20 5) (σ 20 4) (cB σ 21) b last w j := by
    intro d
    induction d with
    | zero =>
      intro w fuel υ e1 e2 e3 e4
      obtain ⟨f, rfl⟩ : ∃ f, fuel = f + 1 := ⟨fuel - 1, by omega⟩
      refine ⟨υ, ?_, e3, fun w' hw' => e4 w' (by omega)⟩
      unfold g_X9_followAll_h10
      exact e_t (by rw [mw_id (by omega) (by omega), mw_id (by omega) (by omega)]; omega) rfl
    | succ d ih =>
      intro w fuel υ e1 e2 e3 e4
      obtain ⟨f, rfl⟩ : ∃ f, fuel = f + 1 := ⟨fuel - 1, by omega⟩
      obtain ⟨υ', a1, a2, a3⟩ := zc_w1 (F := F) (p := p) (n := n) (b := b) (w := w) (σ := σ) (υ := υ) hF (by omega) hb hlast q h3 e3
      obtain ⟨σ1, t1, t2⟩ := ih (w + 1) f υ' (by omega) (by omega) (fun q hq => by rw [a1 q (by omega) (by omega)]; exact e3 q hq) (fun w' hw' j hj => by
        by_cases c : w' = w
        · rw [c]; exact a2 j hj
        · rw [a1 _ (by omega) (by omega)]; exact e4 w' (by omega) j hj)
      refine ⟨σ1, (a3 f).trans ?_, t2⟩
      rw [← t1, show ((w + 1 : Nat) : Int) = (w : Int) + 1 by omega]
  obtain ⟨σ1, t1, t2⟩ := key 10 0 F σ (by omega) (by omega) (fun _ _ => rfl) (fun w hw => absurd hw (by omega))
  refine ⟨σ1, ?_, t2⟩
  unfold g_X9_followAll
  refine e_mob (zc_coming q.2.2.2.2.1 (by decide)) ?_
  rw [← hlast]
  exact t1
