/-! LAYER 2: the plain calls -/
/-- a call answers alike -/
def Alk (gc gr : mMem → mRs) (σ : mMem) (N : Int) : Prop := ∃ (r : Int) (σ1 σ2 : mMem) (p s : Nat), gc σ = some (r, σ1) ∧ gr σ1 = some (r, σ2) ∧ Rel σ2 p s (N + 1)
theorem zr_isi {F : Nat} {σ : mMem} {v a b : Int} (h : i32 v ∧ i32 a ∧ i32 b) : g_X12_is F v a b σ = some (mb (a ≤ v ∧ v ≤ b), σ) := by
  simp (disch := omega) only [g_X12_is, g_X12_is_b15, g_X12_is_b14, mw_id, mb]
  grind
theorem zc_refuse {F k : Nat} {σ : mMem} (hk : k < 6) : g_X11_refuse F (k : Int) σ = some (-1, mup σ 85 k (σ 85 k + 1)) := by
  unfold g_X11_refuse g_X11_refuse_b23
  rw [mwN (i := k) (by omega), mw_id (z := (k : Int)) (by omega) (by omega), mw_id (z := 6) (by omega) (by omega)]
  exact e_f (by omega) (e_f (by omega) (e_t (by omega) (e_t (by omega) rfl)))
theorem zr_refuses {F k : Nat} {σ : mMem} (hk : k < 6) : g_X12_refuses F (k : Int) σ = some (-1, mup σ 109 k (σ 109 k + 1)) := by
  unfold g_X12_refuses
  rw [mwN (i := k) (by omega), mw_id (z := (k : Int)) (by omega) (by omega)]
  exact e_t (by omega) (e_t (by omega) rfl)
theorem rd_off {σ : mMem} {o k q j : Nat} {z : Int} (hq : Rd q j) (h : ¬ Rd o k) : mup σ o k z q j = σ q j := mup_ne (fun e => h (by rw [← e.1, ← e.2]; exact hq))
theorem RF.bump {σ σ' : mMem} {N : Int} {k : Nat} (r : RF σ N) (h1 : σ' 85 = mup1 (σ 85) k (σ 85 k + 1)) (h2 : σ' 109 = mup1 (σ 109) k (σ 109 k + 1)) : RF σ' (N + 1) := by
  unfold RF at *
  rw [h1, h2]
  intro j hj
  have := r j hj
  by_cases e : j = k
  · subst e
    rw [mup1_at rfl, mup1_at rfl]
    omega
  · rw [mup1_ne e, mup1_ne e]
    omega
theorem nRd85 {k : Nat} : ¬ Rd 85 k := by omega
theorem nRd109 {k : Nat} : ¬ Rd 109 k := by omega
/-- both refuse -/
theorem Rel.refuse {σ : mMem} {p s k : Nat} {N : Int} (r : Rel σ p s N) : Rel (mup (mup σ 85 k (σ 85 k + 1)) 109 k (σ 109 k + 1)) p s (N + 1) := by
  have e : ∀ q, q ≠ 85 → q ≠ 109 → (mup (mup σ 85 k (σ 85 k + 1)) 109 k (σ 109 k + 1)) q = σ q := fun q q1 q2 => by rw [mup_off q2, mup_off q1]
  refine r.upd (by omega) (fun q j hq => ?_) (r.1.of (by rw [e 1 (by decide) (by decide)]) (e 2 (by decide) (by decide)) (e 87 (by decide) (by decide)) (by rw [e 86 (by decide) (by decide)])) (r.2.1.bump (k := k) (by rw [mup_off (by decide), mup_row]) (by rw [mup_row, mup_off (by decide)])) (r.2.2.1.of (by rw [e 0 (by decide) (by decide)]) (by rw [e 0 (by decide) (by decide)]) (by rw [e 86 (by decide) (by decide)]) (by rw [e 86 (by decide) (by decide)])) (r.2.2.2.1.of (by rw [e 0 (by decide) (by decide)]) (by rw [e 86 (by decide) (by decide)]))
    (r.2.2.2.2.2.2.2.1.of (by rw [e 35 (by decide) (by decide)]) (e 36 (by decide) (by decide)) (by rw [e 86 (by decide) (by decide)]) (e 122 (by decide) (by decide)) (e 123 (by decide) (by decide))) (r.2.2.2.2.2.2.2.2.of (by rw [e 77 (by decide) (by decide)]) (e 78 (by decide) (by decide)) (by rw [e 86 (by decide) (by decide)]) (e 125 (by decide) (by decide)))
  rw [rd_off hq nRd109, rd_off hq nRd85]
theorem a_fault {F : Nat} {σ : mMem} {p s : Nat} {N x : Int} (r : Rel σ p s N) : Alk (g_X11_fault F x) (g_X12_fault F x) σ N := by
  have r3 := r.2.2.1
  unfold RX at r3
  by_cases c0 : mw x = 0
  · exact ⟨σ 0 10, σ, σ, p, s, e_f (fun q => q c0) rfl, (e_f (fun q => q c0) rfl : g_X12_fault F x σ = some (σ 86 10, σ)).trans (by rw [r3.1.1]), r.same (by omega) (fun _ _ _ => rfl) (fun _ _ _ => rfl)⟩
  · by_cases c1 : mw x = mw 1
    · exact ⟨σ 0 11, σ, σ, p, s, e_t c0 (e_f (fun q => q c1) rfl), (e_t c0 (e_f (fun q => q c1) rfl) : g_X12_fault F x σ = some (σ 86 11, σ)).trans (by rw [r3.2.1]), r.same (by omega) (fun _ _ _ => rfl) (fun _ _ _ => rfl)⟩
    · exact ⟨-1, σ, σ, p, s, e_t c0 (e_t c1 rfl), e_t c0 (e_t c1 rfl), r.same (by omega) (fun _ _ _ => rfl) (fun _ _ _ => rfl)⟩
theorem a_status {F : Nat} {σ : mMem} {p s : Nat} {N x : Int} (hx : i32 x) (r : Rel σ p s N) : Alk (g_X11_status F x) (g_X12_status F x) σ N := by
  have r2 := r.2.1
  have sm := r.same (N' := N + 1) (by omega) (fun _ _ _ => rfl) (fun _ _ _ => rfl)
  have er : g_X12_status F x σ = some (if 0 ≤ x ∧ x ≤ 5 then σ 109 x.toNat else -1, σ) := by
    unfold g_X12_status g_X12_status_b19
    refine e_mob (zr_isi (by omega)) ?_
    by_cases c : 0 ≤ x ∧ x ≤ 5
    · rw [mb_t c, if_pos c]
      refine e_f (by decide) (e_t (by rw [mw_id (by omega) (by omega)]; omega) ?_)
      rw [mw_id (z := x) (by omega) (by omega)]
    · rw [mb_f c, if_neg c]
      exact e_t (by decide) rfl
  have ec : g_X11_status F x σ = some (if 0 ≤ x ∧ x ≤ 5 then σ 85 x.toNat else -1, σ) := by
    unfold g_X11_status g_X11_status_b23 g_X11_status_b13 g_X11_status_b23
    rw [mw_id (z := x) (by omega) (by omega), mw_id (z := 6) (by omega) (by omega)]
    by_cases c : 0 ≤ x ∧ x ≤ 5
    · rw [if_pos c]
      exact e_f (by omega) (e_t (by omega) (e_t (by omega) rfl))
    · rw [if_neg c]
      by_cases c0 : x < 0
      · exact e_t c0 rfl
      · exact e_f c0 (e_f (by omega) rfl)
  refine ⟨_, σ, σ, p, s, ec, er.trans ?_, sm⟩
  by_cases c : 0 ≤ x ∧ x ≤ 5
  · rw [if_pos c, if_pos c, (r2 x.toNat (by omega)).1]
  · rw [if_neg c, if_neg c]
theorem a_octet {F : Nat} {σ : mMem} {p s : Nat} {N x : Int} (hx : i32 x) (r : Rel σ p s N) : Alk (g_X11_octet F x) (g_X12_octet F x) σ N := by
  have r9 := r.2.2.2.2.2.2.2.2
  have sm := r.same (N' := N + 1) (by omega) (fun _ _ _ => rfl) (fun _ _ _ => rfl)
  obtain ⟨o1, o2, o3⟩ := r9
  have er : g_X12_octet F x σ = some (if 0 ≤ x ∧ x < σ 77 1 then σ 125 x.toNat else -1, σ) := by
    unfold g_X12_octet g_X12_octet_b24
    rw [o1]
    refine e_mob (zr_isi (by omega)) ?_
    by_cases c : 0 ≤ x ∧ x < σ 77 1
    · rw [mb_t (by omega), if_pos c]
      refine e_f (by decide) (e_t (by rw [mw_id (by omega) (by omega)]; omega) ?_)
      rw [mw_id (z := x) (by omega) (by omega)]
    · rw [mb_f (by omega), if_neg c]
      exact e_t (by decide) rfl
  have ec : g_X11_octet F x σ = some (if 0 ≤ x ∧ x < σ 77 1 then σ 78 x.toNat else -1, σ) := by
    have eb : g_X4_byteAt F x σ = some (if 0 ≤ x ∧ x < σ 77 1 then σ 78 x.toNat else -1, σ) := by
      unfold g_X4_byteAt g_X4_byteAt_b31 g_X4_byteAt_b21 g_X4_byteAt_b31
      rw [mw_id (z := x) (by omega) (by omega), mw_id (z := σ 77 1) (by omega) (by omega), mw_id (z := 52) (by omega) (by omega)]
      by_cases c : 0 ≤ x ∧ x < σ 77 1
      · rw [if_pos c]
        exact e_f (by omega) (e_f (by omega) (e_t (by omega) (e_t (by omega) rfl)))
      · rw [if_neg c]
        by_cases c0 : x < 0
        · exact e_t c0 rfl
        · exact e_f c0 (e_t (by omega) rfl)
    exact e_mob eb rfl
  refine ⟨_, σ, σ, p, s, ec, er.trans ?_, sm⟩
  by_cases c : 0 ≤ x ∧ x < σ 77 1
  · rw [if_pos c, if_pos c, (o3 x.toNat (by omega)).1]
  · rw [if_neg c, if_neg c]
theorem Rel.tape {σ σ' : mMem} {p s : Nat} {N : Int} (r : Rel σ p s N) (h : ∀ q j, q ≠ 2 → q ≠ 87 → ¬ (q = 1 ∧ j = 1) → ¬ (q = 86 ∧ j = 1) → σ' q j = σ q j) (hT : RT σ') : Rel σ' p s (N + 1) := by
  have e : ∀ q, q ≠ 1 → q ≠ 2 → q ≠ 86 → q ≠ 87 → σ' q = σ q := fun q q1 q2 q3 q4 => funext fun j => h q j q2 q4 (by omega) (by omega)
  refine r.upd (by omega) (fun q j hq => ?_) hT (r.2.1.of (by omega) (e 85 (by decide) (by decide) (by decide) (by decide)) (e 109 (by decide) (by decide) (by decide) (by decide))) (r.2.2.1.of (h 0 10 (by decide) (by decide) (by decide) (by decide)) (h 0 11 (by decide) (by decide) (by decide) (by decide)) (h 86 10 (by decide) (by decide) (by decide) (by decide)) (h 86 11 (by decide) (by decide) (by decide) (by decide))) (r.2.2.2.1.of (h 0 12 (by decide) (by decide) (by decide) (by decide)) (h 86 54 (by decide) (by decide) (by decide) (by decide)))
    (r.2.2.2.2.2.2.2.1.of (h 35 3 (by decide) (by decide) (by decide) (by decide)) (e 36 (by decide) (by decide) (by decide) (by decide)) (h 86 66 (by decide) (by decide) (by decide) (by decide)) (e 122 (by decide) (by decide) (by decide) (by decide)) (e 123 (by decide) (by decide) (by decide) (by decide))) (r.2.2.2.2.2.2.2.2.of (h 77 1 (by decide) (by decide) (by decide) (by decide)) (e 78 (by decide) (by decide) (by decide) (by decide)) (h 86 71 (by decide) (by decide) (by decide) (by decide)) (e 125 (by decide) (by decide) (by decide) (by decide)))
  refine h q j ?_ ?_ ?_ ?_
  · intro e; subst e; exact absurd hq (by omega)
  · intro e; subst e; exact absurd hq (by omega)
  · intro e; rw [e.1, e.2] at hq; exact absurd hq (by decide)
  · intro e; rw [e.1, e.2] at hq; exact absurd hq (by decide)
theorem a_end {F : Nat} {σ : mMem} {p s : Nat} {N x : Int} (hx : i32 x) (r : Rel σ p s N) : Alk (g_X11_end F x) (g_X12_end F x) σ N := by
  obtain ⟨t1, t2, t3⟩ := r.1
  by_cases c : 0 ≤ x ∧ x ≤ σ 1 1
  · refine ⟨1, mup σ 1 1 x, mup (mup σ 1 1 x) 86 1 x, p, s, ?_, ?_, ?_⟩
    · unfold g_X11_end
      rw [mw_id (z := x) (by omega) (by omega), mw_id (z := σ 1 1) (by omega) (by omega)]
      exact e_f (by omega) (e_t (by omega) (e_mem (e_t (by decide) rfl)))
    · unfold g_X12_end
      rw [mup_off (by decide), t1, mw_id (z := x) (by omega) (by omega), mw_id (z := σ 1 1) (by omega) (by omega)]
      exact e_f (by omega) (e_t (by omega) (e_mem (e_t (by decide) rfl)))
    · refine r.tape (fun q j _ _ h1 h2 => by rw [mup_ne h2, mup_ne h1]) ?_
      unfold RT
      rw [mup_at rfl rfl, mup_ne (by decide), mup_at rfl rfl, mup_off (by decide), mup_off (by decide), mup_off (by decide), mup_off (by decide)]
      exact ⟨rfl, by omega, fun j hj => t3 j (by omega)⟩
  · refine ⟨0, mup σ 85 0 (σ 85 0 + 1), mup (mup σ 85 0 (σ 85 0 + 1)) 109 0 (σ 109 0 + 1), p, s, ?_, ?_, r.refuse⟩
    · have b : g_X11_end_b15 F σ = some (0, mup σ 85 0 (σ 85 0 + 1)) := e_mob (zc_refuse (k := 0) (by decide)) (e_t (by decide) rfl)
      unfold g_X11_end
      rw [mw_id (z := x) (by omega) (by omega), mw_id (z := σ 1 1) (by omega) (by omega)]
      by_cases c0 : x < 0
      · exact e_t c0 b
      · exact e_f c0 (e_f (by omega) b)
    · have b : g_X12_end_b12 F (mup σ 85 0 (σ 85 0 + 1)) = some (0, mup (mup σ 85 0 (σ 85 0 + 1)) 109 0 (σ 109 0 + 1)) := by
        refine e_mob (zr_refuses (k := 0) (by decide)) (e_t (by decide) (e_t (by decide) ?_))
        rw [mup_off (show (109 : Nat) ≠ 85 by decide)]
      unfold g_X12_end
      rw [mup_off (by decide), t1, mw_id (z := x) (by omega) (by omega), mw_id (z := σ 1 1) (by omega) (by omega)]
      by_cases c0 : x < 0
      · exact e_t c0 b
      · exact e_f c0 (e_f (by omega) b)
theorem a_seed {F : Nat} {σ : mMem} {p s : Nat} {N x : Int} (hx : i32 x) (r : Rel σ p s N) : Alk (g_X11_seed F x) (g_X12_seed F x) σ N := by
  by_cases c : 0 ≤ x
  · refine ⟨1, mup σ 0 12 x, mup (mup σ 0 12 x) 86 54 x, p, s, ?_, ?_, ?_⟩
    · unfold g_X11_seed
      exact e_t (by rw [mw_id (by omega) (by omega)]; exact c) (e_mem (e_t (by decide) rfl))
    · unfold g_X12_seed
      rw [mw_id (z := x) (by omega) (by omega)]
      exact e_t c (e_mem (e_t (by decide) rfl))
    · have e : ∀ q, q ≠ 0 → q ≠ 86 → (mup (mup σ 0 12 x) 86 54 x) q = σ q := fun q q1 q2 => by rw [mup_off q2, mup_off q1]
      have e2 : ∀ q j, ¬ (q = 0 ∧ j = 12) → ¬ (q = 86 ∧ j = 54) → (mup (mup σ 0 12 x) 86 54 x) q j = σ q j := fun q j q1 q2 => by rw [mup_ne q2, mup_ne q1]
      refine r.upd (by omega) (fun q j hq => ?_) (r.1.of (by rw [e 1 (by decide) (by decide)]) (e 2 (by decide) (by decide)) (e 87 (by decide) (by decide)) (e2 86 1 (by decide) (by decide))) (r.2.1.of (by omega) (e 85 (by decide) (by decide)) (e 109 (by decide) (by decide))) (r.2.2.1.of (e2 0 10 (by decide) (by decide)) (e2 0 11 (by decide) (by decide)) (e2 86 10 (by decide) (by decide)) (e2 86 11 (by decide) (by decide))) ?_
        (r.2.2.2.2.2.2.2.1.of (by rw [e 35 (by decide) (by decide)]) (e 36 (by decide) (by decide)) (e2 86 66 (by decide) (by decide)) (e 122 (by decide) (by decide)) (e 123 (by decide) (by decide))) (r.2.2.2.2.2.2.2.2.of (by rw [e 77 (by decide) (by decide)]) (e 78 (by decide) (by decide)) (e2 86 71 (by decide) (by decide)) (e 125 (by decide) (by decide)))
      · rw [rd_off hq (by decide), rd_off hq (by decide)]
      · unfold RS
        rw [mup_at rfl rfl, mup_ne (by decide), mup_at rfl rfl]
        exact ⟨rfl, c, hx.2⟩
  · refine ⟨0, mup σ 85 5 (σ 85 5 + 1), mup (mup σ 85 5 (σ 85 5 + 1)) 109 5 (σ 109 5 + 1), p, s, ?_, ?_, r.refuse⟩
    · unfold g_X11_seed
      exact e_f (by rw [mw_id (by omega) (by omega)]; exact c) (e_mob (zc_refuse (k := 5) (by decide)) (e_t (by decide) rfl))
    · unfold g_X12_seed
      refine e_f (by rw [mw_id (by omega) (by omega)]; exact c) (e_mob (zr_refuses (k := 5) (by decide)) (e_t (by decide) (e_t (by decide) ?_)))
      rw [mup_off (show (109 : Nat) ≠ 85 by decide)]
