/-! LAYER 2: found, whole -/
theorem xSum_0 {f : Nat → Int} : ∀ n, (∀ s, s < n → f s = 0) → xSum f n = 0
  | 0, _ => rfl
  | n + 1, h => by
    unfold xSum
    rw [xSum_0 n (fun s hs => h s (by omega)), h n (by omega)]
    rfl
theorem zr_h12 {F b : Nat} {τ0 : mMem} : ∀ (m k fuel : Nat) (τ : mMem), m + k = 324 → m < fuel → (∀ q, q ≠ 121 → τ q = τ0 q) → (∀ s, s < k → τ 121 s = -1) → ∃ τ' f, g_X12_found_h12 F fuel (b : Int) (k : Int) τ = g_X12_found_h12 F (f + 1) (b : Int) 324 τ' ∧ (∀ q, q ≠ 121 → τ' q = τ0 q) ∧ ∀ s, s < 324 → τ' 121 s = -1 := by
  intro m
  induction m with
  | zero =>
    intro k fuel τ e1 e2 e3 e4
    have ek : k = 324 := by omega
    subst ek
    exact ⟨τ, fuel - 1, by rw [show fuel - 1 + 1 = fuel by omega]; rfl, e3, e4⟩
  | succ m ih =>
    intro k fuel τ e1 e2 e3 e4
    obtain ⟨f, rfl⟩ : ∃ f, fuel = f + 1 := ⟨fuel - 1, by omega⟩
    obtain ⟨τ', f', t1, t2⟩ := ih (k + 1) f (mup τ 121 k (-1)) (by omega) (by omega) (fun q hq => by rw [mup_off hq]; exact e3 q hq) (fun s hs => by
      by_cases c : s = k
      · rw [mup_at rfl c]
      · rw [mup_ne (by omega)]; exact e4 s (by omega))
    refine ⟨τ', f', ?_, t2⟩
    rw [← t1]
    conv => lhs; unfold g_X12_found_h12
    rw [mwN (i := k) (by omega), show ((k + 1 : Nat) : Int) = (k : Int) + 1 by omega]
    exact e_f (by rw [mw_id (by omega) (by omega), mw_id (by omega) (by omega)]; omega) (e_t (mwR (by omega) (by decide)) (e_mem rfl))
theorem fq_rd {σ σ0 : mMem} (h : FQ σ σ0) : (∀ q j, Rd q j → σ q j = σ0 q j) ∧ (∀ q j, Rs q j → σ q j = σ0 q j) := by
  constructor
  · intro q j hq
    rw [h q ?_ ?_ ?_]
    all_goals (rcases hq with hq | hq | hq | hq | hq | hq | hq <;> omega)
  · intro q j hq
    rw [h q ?_ ?_ ?_]
    all_goals omega
theorem f121_rd {σ σ0 : mMem} (h : ∀ q, q ≠ 121 → σ q = σ0 q) : (∀ q j, Rd q j → σ q j = σ0 q j) ∧ (∀ q j, Rs q j → σ q j = σ0 q j) := by
  constructor
  · intro q j hq
    rw [h q ?_]
    rcases hq with hq | hq | hq | hq | hq | hq | hq <;> omega
  · intro q j hq
    rw [h q ?_]
    omega
theorem a_found {F : Nat} {σ : mMem} {p s : Nat} {N x : Int} (hF : 2000 ≤ F) (hx : i32 x) (r : Rel σ p s N) : Alk (g_X11_found F x) (g_X12_found F x) σ N := by
  have sm := r.same (N' := N + 1) (by omega) (fun _ _ _ => rfl) (fun _ _ _ => rfl)
  obtain ⟨hp, h08, h08n, h20, h20n, hP, hR, h11, h9, h10, hB, hst, hla, h57, h60, h62⟩ := r.now
  obtain ⟨n, q, h3, hE, hc, -⟩ := r.q
  have n11 := q.2.2.1
  have n6 := q.1.1
  unfold Alk g_X11_found g_X12_found g_X11_found_b27
  rw [h08n]
  simp only [if_pos h08, zc_hasBox hx h11, mob_sm]
  by_cases c1 : 0 ≤ x ∧ x < σ p 11
  · obtain ⟨b, eb⟩ : ∃ b : Nat, x = (b : Int) := ⟨x.toNat, by omega⟩
    subst eb
    have hb : b < n := by omega
    obtain ⟨B0, B2, -⟩ := q.2.2.2.2.2.2 b hb
    obtain ⟨υ1, a1, a2, a3⟩ := zc_fill (F := F) (a := 27) (σ := σ) (v := -1) (L := 324) hF (by decide)
    obtain ⟨υ2, e2⟩ : ∃ y, y = mup υ1 26 3 0 := ⟨_, rfl⟩
    have o2 : ∀ q, q ≠ 26 → q ≠ 27 → υ2 q = σ q := fun q q1 q2 => by rw [e2, mup_off q1, a2 q q2]
    have v27 : ∀ s, s < 324 → υ2 27 s = -1 := fun s hs => by rw [e2, mup_off (by decide)]; exact a3 s hs
    have v26 : υ2 26 3 = 0 := by rw [e2, mup_at rfl rfl]
    have cnt : Cnt υ2 := by
      unfold Cnt
      rw [v26, xSum_0 324 (fun s hs => mb_f (fun e => e (v27 s hs)))]
    have ps : PSX υ2 (fun _ => -1) (-1) 0 (fun _ => 0) (fun _ => False) := ⟨cnt, fun s _ e => absurd rfl e, fun s hs _ => Or.inr ⟨fun e => e, v27 s hs⟩, fun j j1 j2 => absurd j2 (by rw [v26]; omega), fun _ _ _ e => e.elim, fun j hj => absurd hj (by omega), by rw [v26]; decide⟩
    obtain ⟨s0, es0⟩ : ∃ s0 : Nat, (s0 : Int) = 4 * (cB σ 21 b 1 * 9 + cB σ 21 b 0) + cB σ 21 b 2 := ⟨(4 * (cB σ 21 b 1 * 9 + cB σ 21 b 0) + cB σ 21 b 2).toNat, by omega⟩
    have s324 : s0 < 324 := by omega
    obtain ⟨υ3, b1, b2, b3⟩ := ps.reach (F := F) (y := s0) (c := cB σ 21 b 0) (r := cB σ 21 b 1) (w := cB σ 21 b 2) (by decide) (fun _ _ => by decide) s324 es0.symm
    have f3 : FQ υ3 σ := fun q q1 q2 q3 => by rw [b2 q q1 q2 q3, o2 q q1 q2]
    obtain ⟨v1, v2, v3, v4, v5, v6, v7⟩ := b3
    have cr := v1.rng
    obtain ⟨T, hT⟩ : ∃ T : Nat, υ3 26 3 = (T : Int) := ⟨(υ3 26 3).toNat, by omega⟩
    have val : ∀ s, s < 324 → (s = s0 ∧ υ3 27 s = 0) ∨ (s ≠ s0 ∧ υ3 27 s = -1) := fun s hs => by
      rcases v3 s hs rfl with ⟨k | k, e⟩ | ⟨k, e⟩
      · exact k.elim
      · exact Or.inl ⟨k, by rw [e]; rfl⟩
      · exact Or.inr ⟨fun c => k (Or.inr c), e⟩
    have fl0 : sOn (σ p 9) (σ p 10) ((s0 / 4 % 9 : Nat) : Int) ((s0 / 36 : Nat) : Int) := by
      have k1 : ((s0 / 4 % 9 : Nat) : Int) = cB σ 21 b 0 := by omega
      have k2 : ((s0 / 36 : Nat) : Int) = cB σ 21 b 1 := by omega
      rw [k1, k2]
      exact B0
    obtain ⟨w, σ1, t1, t2, t3⟩ := j_fd (F := F) (p := p) (n := n) (b := b) (σ := σ) hF q h3 hb 324 0 0 T (υ3 27) υ3 F (by omega) v1 (fun _ _ => rfl) hT (fun j j1 j2 => by
        obtain ⟨s, s1, s2, s3, k | k⟩ := v4 j (by omega) (by omega)
        · exact k.elim
        · refine ⟨s, s1, s2, ?_⟩
          rcases val s s1 with ⟨-, e⟩ | ⟨e, -⟩
          · rw [e]; rfl
          · exact absurd k e) (fun s hs e => by
        rcases val s hs with ⟨k, -⟩ | ⟨-, k⟩
        · obtain ⟨j, j1, j2, j3⟩ := v5 s hs rfl (Or.inr k)
          exact ⟨j, by omega, by omega, j3⟩
        · rw [k] at e; exact absurd e (by decide)) (fun s hs => by
        rcases val s hs with ⟨-, k⟩ | ⟨-, k⟩ <;> omega) (fun s hs e => by
        rcases val s hs with ⟨k, -⟩ | ⟨-, k⟩
        · rw [k]; exact fl0
        · exact absurd k e) (by omega) (by omega) (by omega) f3
    -- the reference
    have rf : RF0 σ p n σ1 := by
      have e86 : σ1 86 = σ 86 := t2 86 (by decide) (by decide) (by decide)
      refine ⟨hR.same (fun q q1 q2 => t2 q (by omega) (by omega) (by omega)) (by rw [e86]), by rw [t2 111 (by decide) (by decide) (by decide)]; exact hla.1, fun j hj => ?_, fun j hj => by rw [t2 112 (by decide) (by decide) (by decide)]; exact hc j hj⟩
      have e : rB σ1 0 j = rB σ 0 j := rB_copy e86 (t2 94 (by decide) (by decide) (by decide)) (t2 95 (by decide) (by decide) (by decide)) (t2 96 (by decide) (by decide) (by decide)) (fun q q1 q2 => by rw [t2 q (by omega) (by omega) (by omega)])
      rw [e]
      exact hE j hj
    obtain ⟨τ1, f', y1, y2, y3⟩ := zr_h12 (F := F) (b := b) (τ0 := σ1) 324 0 F σ1 (by omega) (by omega) (fun _ _ => rfl) (fun s hs => absurd hs (by omega))
    have e112 : τ1 112 b = 9 * cB σ 21 b 1 + cB σ 21 b 0 := by
      have k0 := hE b hb 0 (by decide)
      have k1 := hE b hb 1 (by decide)
      have hcb := hc b hb
      rw [rB_0, show 6 * 0 + b = b by omega] at k0
      rw [rB_1, show 6 * 0 + b = b by omega] at k1
      rw [y2 112 (by decide), t2 112 (by decide) (by decide) (by decide)]
      omega
    have e113 : τ1 113 b = cB σ 21 b 2 := by
      have k2 := hE b hb 2 (by decide)
      rw [rB_2, show 6 * 0 + b = b by omega] at k2
      rw [y2 113 (by decide), t2 113 (by decide) (by decide) (by decide)]
      exact k2.symm
    have rs : RSX τ1 (fun _ => -1) (-1) (fun _ => False) := ⟨fun s _ e => absurd rfl e, fun s hs _ => Or.inr ⟨fun e => e, y3 s hs⟩⟩
    obtain ⟨τ2, z1, z2, z3⟩ := rs.moves (F := F) (y := s0) (c := 9 * cB σ 21 b 1 + cB σ 21 b 0) (w := cB σ 21 b 2) (by decide) (fun _ _ => by decide) s324 (by omega)
    obtain ⟨τ', u1, u2⟩ := t3 σ1 τ2 rf (fun q hq => by rw [z2 q hq, y2 q hq]) (fun s hs => by
      rcases z3.2 s hs rfl with ⟨k | k, e⟩ | ⟨k, e⟩
      · exact k.elim
      · rcases val s hs with ⟨-, e'⟩ | ⟨e', -⟩
        · rw [e, e']; rfl
        · exact absurd k e'
      · rcases val s hs with ⟨e', -⟩ | ⟨-, e'⟩
        · exact absurd (Or.inr e') k
        · rw [e, e']) F (by omega)
    have w1 := fq_rd t2
    have r1 := r.same (N' := N + 1) (by omega) w1.1 w1.2
    have w2 := f121_rd u2
    refine ⟨w, σ1, τ', p, s, ?_, e_mob (zr_isBox hx rf.1 h11) ?_, r1.same (by omega) w2.1 w2.2⟩
    · rw [mb_t c1]
      refine e_f (by decide) (e_mob ?_ rfl)
      unfold g_X0_fewestMoves
      refine e_mob a1 (e_mem ?_)
      rw [← e2]
      refine e_mob (zo_0 (by omega)) (e_mob (zo_1 (by omega)) (e_mob (zo_2 (by omega)) ?_))
      have r21 : υ2 (20 + 1) = σ 21 := o2 21 (by decide) (by decide)
      rw [r21]
      exact e_mob b1 t1
    · rw [mb_t c1]
      refine e_t (by decide) (y1.trans ?_)
      unfold g_X12_found_h12
      rw [mwN (i := b) (by omega), e112, e113]
      exact e_t (by decide) (e_t (mwR (by omega) (by decide)) (e_t (mwR (by omega) (by decide)) (e_mob z1 u1)))
  · refine ⟨-1, σ, σ, p, s, ?_, e_mob (zr_isBox hx hR h11) ?_, sm⟩
    · rw [mb_f c1]
      exact e_t (by decide) rfl
    · rw [mb_f c1]
      exact e_f (by decide) rfl
