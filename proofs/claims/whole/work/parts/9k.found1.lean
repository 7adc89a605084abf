/-! LAYER 2: found, a move of the class -/
theorem xSum_upd {f g : Nat → Int} {y : Nat} (h0 : f y = 0) (h1 : g y = 1) (hg : ∀ s, s ≠ y → g s = f s) : ∀ n, xSum g n = xSum f n + (if y < n then 1 else 0)
  | 0 => by unfold xSum; simp
  | n + 1 => by
    have ih := xSum_upd h0 h1 hg n
    unfold xSum
    rw [ih]
    by_cases c : n = y
    · subst c
      rw [h0, h1, if_neg (by omega), if_pos (by omega)]
    · rw [hg n c]
      by_cases c2 : y < n
      · rw [if_pos c2, if_pos (by omega)]; omega
      · rw [if_neg c2, if_neg (by omega)]; omega
def Cnt (υ : mMem) : Prop := υ 26 3 = xSum (fun s => mb (¬ υ 27 s = -1)) 324
theorem Cnt.rng {υ : mMem} (h : Cnt υ) : 0 ≤ υ 26 3 ∧ υ 26 3 ≤ 324 := by
  have := xSum_rng (f := fun s => mb (¬ υ 27 s = -1)) (n := 324) (fun j _ => by
    have := mb_rng (¬ υ 27 j = -1)
    show mb (¬ υ 27 j = -1) = 0 ∨ mb (¬ υ 27 j = -1) = 1
    omega)
  unfold Cnt at h
  omega
theorem zc_reach {F y : Nat} {υ : mMem} {c r w v : Int} (hy : y < 324) (e : 4 * (r * 9 + c) + w = (y : Int)) (hC : Cnt υ) (hv : 0 ≤ v ∧ v ≤ 400) (hr : -1 ≤ υ 27 y ∧ υ 27 y ≤ 400) : ∃ υ', g_X0_reach F c r w v υ = some (0, υ') ∧ Cnt υ' ∧ (∀ q, q ≠ 26 → q ≠ 27 → q ≠ 28 → υ' q = υ q) ∧ ((¬ υ 27 y = -1 ∧ υ' = υ) ∨ (υ 27 y = -1 ∧ υ' 27 = mup1 (υ 27) y v ∧ υ' 28 = mup1 (υ 28) (υ 26 3).toNat (y : Int) ∧ υ' 26 3 = υ 26 3 + 1)) := by
  have cr := hC.rng
  by_cases c0 : υ 27 y = -1
  · obtain ⟨υ', eu⟩ : ∃ z, z = mup (mup (mup υ 27 y v) 28 (υ 26 3).toNat (y : Int)) 26 3 (υ 26 3 + 1) := ⟨_, rfl⟩
    have r27 : υ' 27 = mup1 (υ 27) y v := by rw [eu, mup_off (by decide), mup_off (by decide), mup_row]
    have r28 : υ' 28 = mup1 (υ 28) (υ 26 3).toNat (y : Int) := by rw [eu, mup_off (by decide), mup_row, mup_off (by decide)]
    have r26 : υ' 26 3 = υ 26 3 + 1 := by rw [eu, mup_at rfl rfl]
    have up := xSum_upd (f := fun s => mb (¬ υ 27 s = -1)) (g := fun s => mb (¬ υ' 27 s = -1)) (y := y) (mb_f (fun e => e c0)) (by
      show mb (¬ υ' 27 y = -1) = 1
      rw [r27]
      exact mb_t (by rw [mup1_at rfl]; omega)) (fun s hs => by
      show mb (¬ υ' 27 s = -1) = mb (¬ υ 27 s = -1)
      rw [r27, mup1_ne hs]) 324
    rw [if_pos hy] at up
    have c' : Cnt υ' := by
      unfold Cnt at hC ⊢
      rw [r26, up, hC]
    have cr' := c'.rng
    refine ⟨υ', ?_, c', fun q q1 q2 q3 => by rw [eu, mup_off q1, mup_off q3, mup_off q2], Or.inr ⟨c0, r27, r28, r26⟩⟩
    unfold g_X0_reach g_X0_reach_b76
    rw [e]
    refine e_let ?_
    rw [mwN (i := y) (by omega), c0]
    refine e_f (by rw [mw_id (by omega) (by omega)]; omega) (e_f (by rw [mw_id (by omega) (by omega), mw_id (by omega) (by omega)]; omega) (e_f (by rw [mw_id (by omega) (by omega), mw_id (by omega) (by omega)]; omega) (e_t (mwR (by omega) (by decide)) (e_f (fun e => e rfl) (e_t (mwR (by omega) (by decide)) (e_mem ?_))))))
    rw [mup_off (o := 27) (q := 26) (by decide), mw_id (z := υ 26 3) (by omega) (by omega)]
    refine e_t (by omega) (e_mem (e_mem ?_))
    rw [mup_off (o := 28) (q := 26) (by decide), mup_off (o := 27) (q := 26) (by decide), ← eu]
  · refine ⟨υ, ?_, hC, fun _ _ _ _ => rfl, Or.inl ⟨c0, rfl⟩⟩
    unfold g_X0_reach g_X0_reach_b76
    rw [e]
    refine e_let ?_
    rw [mwN (i := y) (by omega)]
    refine e_f (by rw [mw_id (by omega) (by omega)]; omega) (e_f (by rw [mw_id (by omega) (by omega), mw_id (by omega) (by omega)]; omega) ?_)
    by_cases c1 : mw 324 ≤ mw (υ 26 3)
    · exact e_t c1 rfl
    · exact e_f c1 (e_t (mwR (by omega) (by decide)) (e_t (by rw [mw_id (z := υ 27 y) (by omega) (by omega)]; exact c0) rfl))
/-- the class's queue, the layer d done as far as X says -/
def PSX (υ : mMem) (a : Nat → Int) (d : Int) (t0 : Nat) (Q : Nat → Int) (X : Nat → Prop) : Prop := Cnt υ ∧ (∀ s, s < 324 → ¬ a s = -1 → υ 27 s = a s) ∧ (∀ s, s < 324 → a s = -1 → (X s ∧ υ 27 s = d + 1) ∨ (¬ X s ∧ υ 27 s = -1)) ∧ (∀ j : Nat, t0 ≤ j → (j : Int) < υ 26 3 → ∃ s : Nat, s < 324 ∧ υ 28 j = (s : Int) ∧ a s = -1 ∧ X s) ∧ (∀ s, s < 324 → a s = -1 → X s → ∃ j : Nat, t0 ≤ j ∧ (j : Int) < υ 26 3 ∧ υ 28 j = (s : Int)) ∧ (∀ j, j < t0 → υ 28 j = Q j) ∧ (t0 : Int) ≤ υ 26 3
theorem PSX.congr {υ : mMem} {a : Nat → Int} {d : Int} {t0 : Nat} {Q : Nat → Int} {X Y : Nat → Prop} (h : PSX υ a d t0 Q X) (e : ∀ s, s < 324 → (X s ↔ Y s)) : PSX υ a d t0 Q Y := by
  obtain ⟨h1, h2, h3, h4, h5, h6, h7⟩ := h
  refine ⟨h1, h2, fun s hs ha => ?_, fun j j1 j2 => ?_, fun s hs ha hx => h5 s hs ha ((e s hs).mpr hx), h6, h7⟩
  · rcases h3 s hs ha with ⟨x1, x2⟩ | ⟨x1, x2⟩
    · exact Or.inl ⟨(e s hs).mp x1, x2⟩
    · exact Or.inr ⟨fun q => x1 ((e s hs).mpr q), x2⟩
  · obtain ⟨s, s1, s2, s3, s4⟩ := h4 j j1 j2
    exact ⟨s, s1, s2, s3, (e s s1).mp s4⟩
theorem PSX.rng {υ : mMem} {a : Nat → Int} {d : Int} {t0 : Nat} {Q : Nat → Int} {X : Nat → Prop} (h : PSX υ a d t0 Q X) (hd : -1 ≤ d ∧ d ≤ 399) (ha : ∀ s, s < 324 → -1 ≤ a s ∧ a s ≤ 400) {s : Nat} (hs : s < 324) : -1 ≤ υ 27 s ∧ υ 27 s ≤ 400 := by
  by_cases c : a s = -1
  · rcases h.2.2.1 s hs c with ⟨-, x⟩ | ⟨-, x⟩ <;> omega
  · rw [h.2.1 s hs c]
    exact ha s hs
theorem PSX.reach {F y t0 : Nat} {υ : mMem} {a : Nat → Int} {d c r w : Int} {Q : Nat → Int} {X : Nat → Prop} (h : PSX υ a d t0 Q X) (hd : -1 ≤ d ∧ d ≤ 399) (ha : ∀ s, s < 324 → -1 ≤ a s ∧ a s ≤ 400) (hy : y < 324) (e : 4 * (r * 9 + c) + w = (y : Int)) : ∃ υ', g_X0_reach F c r w (d + 1) υ = some (0, υ') ∧ (∀ q, q ≠ 26 → q ≠ 27 → q ≠ 28 → υ' q = υ q) ∧ PSX υ' a d t0 Q (fun s => X s ∨ s = y) := by
  obtain ⟨υ', b1, b2, b3, b4⟩ := zc_reach (F := F) (y := y) (υ := υ) (c := c) (r := r) (w := w) (v := d + 1) hy e h.1 (by omega) (h.rng hd ha hy)
  refine ⟨υ', b1, b3, ?_⟩
  have cr := h.1.rng
  obtain ⟨h1, h2, h3, h4, h5, h6, h7⟩ := h
  rcases b4 with ⟨n1, n2⟩ | ⟨n1, n2, n3, n4⟩
  · subst n2
    have old : a y = -1 → X y := fun ay => by
      rcases h3 y hy ay with ⟨x1, -⟩ | ⟨-, x2⟩
      · exact x1
      · exact absurd x2 n1
    refine ⟨h1, h2, fun s hs as => ?_, fun j j1 j2 => ?_, fun s hs as hx => ?_, h6, h7⟩
    · rcases h3 s hs as with ⟨x1, x2⟩ | ⟨x1, x2⟩
      · exact Or.inl ⟨Or.inl x1, x2⟩
      · refine Or.inr ⟨fun q => ?_, x2⟩
        rcases q with q | q
        · exact x1 q
        · subst q; exact x1 (old as)
    · obtain ⟨s, s1, s2, s3, s4⟩ := h4 j j1 j2
      exact ⟨s, s1, s2, s3, Or.inl s4⟩
    · rcases hx with q | q
      · exact h5 s hs as q
      · subst q; exact h5 s hs as (old as)
  · have ay : a y = -1 := by
      by_cases c : a y = -1
      · exact c
      · exact absurd n1 (by rw [h2 y hy c]; exact c)
    have nX : ¬ X y := fun x => by
      rcases h3 y hy ay with ⟨-, x2⟩ | ⟨x1, -⟩
      · omega
      · exact x1 x
    refine ⟨b2, fun s hs as => ?_, fun s hs as => ?_, fun j j1 j2 => ?_, fun s hs as hx => ?_, fun j hj => ?_, by omega⟩
    · rw [n2, mup1_ne (fun q => as (by rw [q]; exact ay))]
      exact h2 s hs as
    · by_cases c : s = y
      · subst c
        rw [n2, mup1_at rfl]
        exact Or.inl ⟨Or.inr rfl, rfl⟩
      · rw [n2, mup1_ne c]
        rcases h3 s hs as with ⟨x1, x2⟩ | ⟨x1, x2⟩
        · exact Or.inl ⟨Or.inl x1, x2⟩
        · exact Or.inr ⟨fun q => by rcases q with q | q; exact x1 q; exact c q, x2⟩
    · by_cases c : j = (υ 26 3).toNat
      · exact ⟨y, hy, by rw [n3, mup1_at c], ay, Or.inr rfl⟩
      · obtain ⟨s, s1, s2, s3, s4⟩ := h4 j j1 (by omega)
        exact ⟨s, s1, by rw [n3, mup1_ne c]; exact s2, s3, Or.inl s4⟩
    · by_cases c : s = y
      · refine ⟨(υ 26 3).toNat, by omega, by omega, ?_⟩
        rw [n3, mup1_at rfl, c]
      · rcases hx with q | q
        · obtain ⟨j, j1, j2, j3⟩ := h5 s hs as q
          exact ⟨j, j1, by omega, by rw [n3, mup1_ne (by omega)]; exact j3⟩
        · exact absurd q c
    · rw [n3, mup1_ne (by omega)]
      exact h6 j hj
/-- a move: what comes of s -/
def xE (C R : Int) (A : Nat → Nat → Int) (n : Nat) (b : Nat) (s t : Nat) : Prop := t = 4 * (s / 4) + (s % 4 + 1) % 4 ∨ t = 4 * (s / 4) + (s % 4 + 3) % 4 ∨ (sOn C R ((s / 4 % 9 : Nat) + sdc (s % 4 : Nat)) ((s / 36 : Nat) + sdr (s % 4 : Nat)) ∧ (xWho A ((s / 4 % 9 : Nat) + sdc (s % 4 : Nat)) ((s / 36 : Nat) + sdr (s % 4 : Nat)) n = -1 ∨ xWho A ((s / 4 % 9 : Nat) + sdc (s % 4 : Nat)) ((s / 36 : Nat) + sdr (s % 4 : Nat)) n = (b : Int)) ∧ (t : Int) = 4 * (9 * ((s / 36 : Nat) + sdr (s % 4 : Nat)) + ((s / 4 % 9 : Nat) + sdc (s % 4 : Nat))) + (s % 4 : Nat))
abbrev xBk (C R : Int) (g : Nat → Int) (lamp : Int) (s : Nat) : Prop := 5 ≤ sGrey C R g ((s / 4 % 9 : Nat) : Int) ((s / 36 : Nat) : Int) - lamp
