/-! LAYER 2: bright -/
theorem LR.lamp {p n : Nat} {π τ τ0 : mMem} {lamp lamp' step delay : Int} {A : Nat → Nat → Int} (h : LR π p n lamp step delay A 0 τ τ0) : LR π p n lamp' step delay A 0 (mup τ 111 1 lamp') τ0 := by
  obtain ⟨⟨f1, f2, f3, f4, f5, f6⟩, h1, h2, h3, T, ring, hK⟩ := h
  have eR : ∀ j, rB (mup τ 111 1 lamp') 1 j = rB τ 1 j := fun j => rB_c2 (fun q hq => mup_off (by omega)) (fun i _ _ => by rw [mup_off (by decide)]) 1 j
  refine ⟨⟨fun q q1 q2 => by rw [mup_off (by omega)]; exact f1 q q1 q2, fun q q1 => by rw [mup_off (by omega)]; exact f2 q q1, fun i i1 i2 => by rw [mup_off (by decide)]; exact f3 i i1 i2, fun q hq i hi => by rw [mup_ne (by omega)]; exact f4 q hq i hi, fun q q1 q2 i hi => by rw [mup_off (by omega)]; exact f5 q q1 q2 i hi, fun i hi => by rw [mup_off (by decide)]; exact f6 i hi⟩, fun j hj => ?_, by rw [mup_off (by decide)]; exact h2, mup_at rfl rfl, T, ring, hK.congr (by rw [mup_off (by decide)]) (fun j _ _ => by rw [mup_off (by decide)])⟩
  rw [eR, mup_off (by decide)]
  exact h1 j hj
theorem CR.lamp {p n : Nat} {π σ σ0 : mMem} {lamp lamp' step delay : Int} {A : Nat → Nat → Int} (h : CR π p n lamp step delay A 0 29 σ σ0) : CR π p n lamp' step delay A 0 29 (mup σ 29 5 lamp') σ0 := by
  obtain ⟨f1, h1, h3, h4, h5⟩ := h
  refine ⟨fun q hq => by rw [mup_off (by omega)]; exact f1 q hq, fun j hj => ?_, by rw [mup_ne (by decide)]; exact h3, by rw [mup_ne (by decide)]; exact h4, mup_at rfl rfl⟩
  have e : cB (mup σ 29 5 lamp') (29 + 1) j = cB σ (29 + 1) j := by
    funext g
    dsimp only [cB]
    rw [mup_off (by decide)]
  rw [e]
  exact h1 j hj
theorem zr_br57 {F p n : Nat} {π τ : mMem} {x1 x2 : Int} {f : Nat → Int} {k16 : Int → Int → mMem → mRs} (hR : PlR π p τ) (hn : n ≤ 6) (h11 : π p 11 = (n : Int)) (hf : ∀ j, j < n → sml (τ 115 (6 + j)) ∧ 0 ≤ τ 115 (6 + j) ∧ f j = mb (0 < τ 115 (6 + j))) : ∀ (d i fuel : Nat) (ok : Int), d + i = n → d < fuel → (ok = 0 ∨ ok = 1) → (ok = 1 ↔ xSum f i = 0) → g_X12_bright_h57 F k16 fuel x1 x2 ok (i : Int) τ = (if xSum f n = 0 then some (x2, τ) else k16 x1 (x2 + (-1)) τ) := by
  obtain ⟨hb, -, -, q11, -⟩ := hR
  have mbk : mw (τ 86 13) = τ 86 13 := mw_id (by omega) (by omega)
  have f01 : ∀ j, j < n → f j = 0 ∨ f j = 1 := fun j hj => by
    have := mb_rng (0 < τ 115 (6 + j))
    rw [(hf j hj).2.2]
    omega
  have gt : ∀ g, g = τ 86 13 → (0 ≤ g ∧ g < 2) := fun g hg => by omega
  intro d
  induction d with
  | zero =>
    intro i fuel ok h1 h2 h3 h4
    obtain ⟨g, rfl⟩ : ∃ g, fuel = g + 1 := ⟨fuel - 1, by omega⟩
    have ei : i = n := by omega
    subst ei
    unfold g_X12_bright_h57
    rw [mbk]
    refine e_t (gt _ rfl) ?_
    rw [q11, h11]
    refine e_t (by rw [mw_id (by omega) (by omega)]; omega) ?_
    rcases h3 with rfl | rfl
    · rw [if_neg (fun e => absurd (h4.mpr e) (by decide))]
      exact e_t (by decide) rfl
    · rw [if_pos (h4.mp rfl)]
      exact e_f (by decide) rfl
  | succ d ih =>
    intro i fuel ok h1 h2 h3 h4
    obtain ⟨g, rfl⟩ : ∃ g, fuel = g + 1 := ⟨fuel - 1, by omega⟩
    have hi := hf i (by omega)
    have sr := xSum_rng (f := f) (n := i) (fun j hj => f01 j (by omega))
    have fi := f01 i (by omega)
    have head : ∀ X ok', (ok' = 0 ∨ ok' = 1) → (ok' = 1 ↔ ok = 1 ∧ τ 115 (6 + i) = 0) → g_X12_bright_h57 F k16 g x1 x2 ok' ((i : Int) + 1) τ = X → g_X12_bright_h57 F k16 (g + 1) x1 x2 ok (i : Int) τ = X := by
      intro X ok' k1 k2 hX
      unfold g_X12_bright_h57 g_X12_bright_b92 g_X12_bright_b93
      rw [mbk]
      refine e_t (gt _ rfl) ?_
      rw [q11, h11]
      refine e_f (by rw [mw_id (by omega) (by omega), mw_id (by omega) (by omega)]; omega) ?_
      rcases h3 with rfl | rfl
      · have : ok' = 0 := by omega
        rw [this] at hX
        exact e_t (by decide) hX
      · refine e_f (by decide) ?_
        rw [mw_id (z := 6 + (i : Int)) (by omega) (by omega), show (6 + (i : Int)).toNat = 6 + i by omega]
        refine e_t (by omega) ?_
        by_cases c : τ 115 (6 + i) = 0
        · have : ok' = 1 := by omega
          rw [this] at hX
          exact e_f (by rw [c]; decide) hX
        · have : ok' = 0 := by omega
          rw [this] at hX
          exact e_t (by rw [mw_id (by omega) (by omega)]; exact c) hX
    have step1 : xSum f (i + 1) = xSum f i + f i := rfl
    have fz : f i = 0 ↔ τ 115 (6 + i) = 0 := by
      rw [hi.2.2, mb_0]
      omega
    by_cases c : ok = 1 ∧ τ 115 (6 + i) = 0
    · have := ih (i + 1) g 1 (by omega) (by omega) (Or.inr rfl) ⟨fun _ => by rw [step1]; have := h4.mp c.1; have := fz.mpr c.2; omega, fun _ => rfl⟩
      refine head _ 1 (Or.inr rfl) ⟨fun _ => c, fun _ => rfl⟩ ?_
      rw [← this, show ((i + 1 : Nat) : Int) = (i : Int) + 1 by omega]
    · have := ih (i + 1) g 0 (by omega) (by omega) (Or.inl rfl) ⟨fun e => absurd e (by decide), fun e => by
        rw [step1] at e
        exact absurd ⟨h4.mpr (by omega), fz.mp (by omega)⟩ c⟩
      refine head _ 0 (Or.inl rfl) ⟨fun e => absurd e (by decide), fun e => absurd e c⟩ ?_
      rw [← this, show ((i + 1 : Nat) : Int) = (i : Int) + 1 by omega]
theorem j_br {F p n k : Nat} {π σ0 : mMem} {lamp step : Int} {A : Nat → Nat → Int} (hF : 2000 ≤ F) (q : QC π p n lamp step 0 A) (hσ : PEq σ0 π p) (hk : step + k ≤ 999 ∧ k ≤ 80) : ∀ (d m fuel : Nat) (υ : mMem), d + m = k → d < fuel → CR π p n lamp step 0 A m 29 υ σ0 → ∃ (v : Int) (σ' : mMem), (0 ≤ v ∧ v ≤ 6) ∧ FC σ' σ0 ∧ (∀ k3, g_X0_brightestLamp_h26 F 20 k3 fuel (k : Int) lamp (m : Int) υ = (if v = 0 then some (lamp, σ') else k3 (k : Int) (lamp + (-1)) σ')) ∧ ∀ τ0 τ, QR π p step 0 τ0 → LR π p n lamp step 0 A m τ τ0 → ∃ τ', TryF τ' τ0 ∧ ∀ k16, g_X12_bright_h35 F k16 fuel (k : Int) lamp (m : Int) τ = (if v = 0 then some (lamp, τ') else k16 (k : Int) (lamp + (-1)) τ') := by
  have n6 := q.1.1
  have hp := q.1.2
  have h11 := q.2.2.1
  have hs := q.2.2.2.2.1
  intro d
  induction d with
  | zero =>
    intro m fuel υ h1 h2 h
    obtain ⟨f, rfl⟩ : ∃ f, fuel = f + 1 := ⟨fuel - 1, by omega⟩
    have b4 : ∀ j, j < n → 0 ≤ xIt π p n lamp step 0 A m j 4 ∧ xIt π p n lamp step 0 A m j 4 ≤ 99 := fun j hj => (xIt_BR (lamp := lamp) (step := step) (delay := 0) q.2.2.2.2.2.2 m j hj).2.2.2.1
    have f01 : ∀ j, j < n → mb (0 < xIt π p n lamp step 0 A m j 4) = 0 ∨ mb (0 < xIt π p n lamp step 0 A m j 4) = 1 := fun j hj => by
      have := mb_rng (0 < xIt π p n lamp step 0 A m j 4)
      omega
    have sr := xSum_rng (n := n) f01
    refine ⟨xSum (fun j => mb (0 < xIt π p n lamp step 0 A m j 4)) n, υ, by omega, h.1, fun k3 => ?_, fun τ0 τ hr hL => ⟨τ, hL.1, fun k16 => ?_⟩⟩
    · have c4 : ∀ j, j < n → cB υ (29 + 1) j 4 = xIt π p n lamp step 0 A m j 4 := fun j hj => h.2.1 j hj 4 (by decide)
      have e3 := h.2.2.1
      have lo := zc_lost (F := F) (o := 29) (p := p) (n := n) (σ := υ) hF (by omega) (by omega) (by rw [h.1 p (by omega), hσ.1]; exact h11) n6 (fun j hj => by rw [c4 j hj]; have := b4 j hj; omega)
      rw [xSum_congr (g := fun j => mb (0 < xIt π p n lamp step 0 A m j 4)) (fun j hj => by simp only [c4 j hj])] at lo
      unfold g_X0_brightestLamp_h26
      refine e_t (by rw [mw_id (by omega) (by omega), mw_id (by omega) (by omega)]; omega) (e_mob lo ?_)
      rw [mw_id (by omega) (by omega)]
      by_cases c : xSum (fun j => mb (0 < xIt π p n lamp step 0 A m j 4)) n = 0
      · rw [if_pos c]
        exact e_f (fun e => e c) rfl
      · rw [if_neg c]
        exact e_t c rfl
    · have c4 : ∀ j, j < n → τ 115 (6 + j) = xIt π p n lamp step 0 A m j 4 := fun j hj => by
        have := (hL.2.1 j hj).1 4 (by decide)
        rw [rB_4, show 6 * 1 + j = 6 + j by omega] at this
        exact this
      have R : PlR π p τ := hr.1.same (fun q q1 q2 => hL.1.1 q (by omega) (by omega)) (hL.1.2.2.1 13 (by decide) (by decide))
      have := zr_br57 (F := F) (x1 := (k : Int)) (x2 := lamp) (f := fun j => mb (0 < xIt π p n lamp step 0 A m j 4)) (k16 := k16) R n6 h11 (fun j hj => by rw [c4 j hj]; have := b4 j hj; exact ⟨by omega, this.1, rfl⟩) n 0 F 1 (by omega) (by omega) (Or.inr rfl) ⟨fun _ => rfl, fun _ => rfl⟩
      unfold g_X12_bright_h35
      exact e_t (by rw [mw_id (by omega) (by omega), mw_id (by omega) (by omega)]; omega) this
  | succ d ih =>
    intro m fuel υ h1 h2 h
    obtain ⟨f, rfl⟩ : ∃ f, fuel = f + 1 := ⟨fuel - 1, by omega⟩
    obtain ⟨υ1, a1, a2, -⟩ := q.c (F := F) (made := 0) hF hσ (by omega) (by decide) (fun _ _ => made0) h
    obtain ⟨v, σ', o1, o2, o3, o4⟩ := ih (m + 1) f υ1 (by omega) (by omega) a2
    refine ⟨v, σ', o1, o2, fun k3 => ?_, fun τ0 τ hr hL => ?_⟩
    · rw [← o3 k3]
      conv => lhs; unfold g_X0_brightestLamp_h26
      refine e_f (by rw [mw_id (by omega) (by omega), mw_id (by omega) (by omega)]; omega) (e_mob a1 ?_)
      rw [show ((m + 1 : Nat) : Int) = (m : Int) + 1 by omega]
    · obtain ⟨τ1, b1, b2, -⟩ := q.r (F := F) hF hr (by omega) hL
      obtain ⟨τ', u1, u2⟩ := o4 τ0 τ1 hr b2
      refine ⟨τ', u1, fun k16 => ?_⟩
      rw [← u2 k16]
      conv => lhs; unfold g_X12_bright_h35
      refine e_f (by rw [mw_id (by omega) (by omega), mw_id (by omega) (by omega)]; omega) (e_mob b1 ?_)
      rw [show ((m + 1 : Nat) : Int) = (m : Int) + 1 by omega]
theorem j_bro {F p s n k : Nat} {σ : mMem} {N : Int} (hF : 2000 ≤ F) (r : Rel σ p s N) (q : QC σ p n (σ 20 5) (σ 20 4) 0 (cB σ 21)) (h3 : σ 20 3 = (p : Int)) (hk : σ 20 4 + k ≤ 999 ∧ k ≤ 80) : ∀ (d fuel : Nat) (υ : mMem), d ≤ 10 → d < fuel → FC υ σ → ∃ x σ', g_X0_brightestLamp_h3 F 20 fuel (k : Int) ((d : Int) - 1) υ = some (x, σ') ∧ FC σ' σ ∧ ∀ σ1 τ, FC σ1 σ → TryG τ σ1 → τ 86 57 = -1 → τ 86 60 = -1 → τ 86 62 = 0 → ∃ τ', g_X12_bright_h16 F fuel (k : Int) ((d : Int) - 1) τ = some (x, τ') ∧ TryG τ' σ1 ∧ τ' 86 57 = -1 ∧ τ' 86 60 = -1 ∧ τ' 86 62 = 0 := by
  have n6 := q.1.1
  have hp := q.1.2
  have hs := q.2.2.2.2.1
  intro d
  induction d with
  | zero =>
    intro fuel υ h1 h2 h
    obtain ⟨f, rfl⟩ : ∃ f, fuel = f + 1 := ⟨fuel - 1, by omega⟩
    refine ⟨-1, υ, ?_, h, fun σ1 τ fc g e57 e60 e62 => ⟨τ, ?_, g, e57, e60, e62⟩⟩
    · unfold g_X0_brightestLamp_h3
      exact e_t (by rw [mw_id (by omega) (by omega)]; omega) rfl
    · unfold g_X12_bright_h16
      exact e_t (by rw [mw_id (by omega) (by omega)]; omega) rfl
  | succ d ih =>
    intro fuel υ h1 h2 h
    obtain ⟨f, rfl⟩ : ∃ f, fuel = f + 1 := ⟨fuel - 1, by omega⟩
    rw [show ((d + 1 : Nat) : Int) - 1 = (d : Int) by omega]
    have qD : QC σ p n (d : Int) (σ 20 4) 0 (cB σ 21) := ⟨q.1, q.2.1, q.2.2.1, by omega, q.2.2.2.2⟩
    have e20 : υ 20 = σ 20 := h 20 (by decide)
    have e21 : υ 21 = σ 21 := h 21 (by decide)
    obtain ⟨υ0, s1, s2, -⟩ := zc_start (F := F) (p := p) (n := n) (o := 29) (σ := υ) (π := σ) (lamp := σ 20 5) (step := σ 20 4) (delay := 0) (Or.inl rfl) n6 hp (by rw [e20]; exact h3) (by rw [e20]) (by rw [e20])
    have ecb : cB υ 21 = cB σ 21 := by
      funext j g
      dsimp only [cB]
      rw [e21]
    rw [ecb] at s2
    obtain ⟨v, υ1, o1, o2, o3, o4⟩ := j_br (F := F) (k := k) hF qD (h.peq hp) hk k 0 F (mup υ0 29 5 (d : Int)) (by omega) (by omega) s2.lamp
    have o5 : FC υ1 σ := o2.tr h
    have hc : g_X0_brightestLamp_h3 F 20 (f + 1) (k : Int) (d : Int) υ = (if v = 0 then some ((d : Int), υ1) else g_X0_brightestLamp_h3 F 20 f (k : Int) ((d : Int) + (-1)) υ1) := by
      conv => lhs; unfold g_X0_brightestLamp_h3
      exact e_f (by rw [mw_id (by omega) (by omega)]; omega) (e_mob s1 (e_mem (o3 _)))
    have hl : ∀ σ1 τ, FC σ1 σ → TryG τ σ1 → τ 86 57 = -1 → τ 86 60 = -1 → τ 86 62 = 0 → ∃ τ1, (TryG τ1 σ1 ∧ τ1 86 57 = -1 ∧ τ1 86 60 = -1 ∧ τ1 86 62 = 0) ∧ g_X12_bright_h16 F (f + 1) (k : Int) (d : Int) τ = (if v = 0 then some ((d : Int), τ1) else g_X12_bright_h16 F f (k : Int) ((d : Int) + (-1)) τ1) := by
      intro σ1 τ fc g e57 e60 e62
      obtain ⟨w1, w2, w3, w4, w5, w6, -⟩ := r.g q.2.2.1 fc g
      obtain ⟨τ0, v1, v2⟩ := zr_startA (F := F) (p := p) (n := n) (π := σ) (τ := τ) (lamp := σ 20 5) (step := σ 20 4) (delay := 0) (A := cB σ 21) hF n6 w2 w3 w4 (fun j hj => (w5 j hj).2) (w6 e57 e60)
      obtain ⟨τ1, u1, u2⟩ := o4 τ (mup τ0 111 1 (d : Int)) ⟨w1, by rw [e57]; decide, by rw [e60]; decide, e62, w2⟩ v2.lamp
      refine ⟨τ1, ⟨u1.g.tr g, by rw [u1.2.2.1 57 (by decide) (by decide)]; exact e57, by rw [u1.2.2.1 60 (by decide) (by decide)]; exact e60, by rw [u1.2.2.1 62 (by decide) (by decide)]; exact e62⟩, ?_⟩
      conv => lhs; unfold g_X12_bright_h16
      exact e_f (by rw [mw_id (by omega) (by omega)]; omega) (e_mob v1 (e_t (by decide) (e_mem (u2 _))))
    by_cases c : v = 0
    · rw [if_pos c] at hc
      refine ⟨(d : Int), υ1, hc, o5, fun σ1 τ fc g e57 e60 e62 => ?_⟩
      obtain ⟨τ1, y1, y2⟩ := hl σ1 τ fc g e57 e60 e62
      rw [if_pos c] at y2
      exact ⟨τ1, y2, y1⟩
    · rw [if_neg c] at hc
      obtain ⟨x, σ', t1, t2, t3⟩ := ih f υ1 (by omega) (by omega) o5
      refine ⟨x, σ', hc.trans t1, t2, fun σ1 τ fc g e57 e60 e62 => ?_⟩
      obtain ⟨τ1, ⟨y1, y2, y3, y4⟩, y5⟩ := hl σ1 τ fc g e57 e60 e62
      rw [if_neg c] at y5
      obtain ⟨τ', z1, z2⟩ := t3 σ1 τ1 fc y1 y2 y3 y4
      exact ⟨τ', y5.trans z1, z2⟩
theorem a_bright {F : Nat} {σ : mMem} {p s : Nat} {N x : Int} (hF : 2000 ≤ F) (hx : i32 x) (r : Rel σ p s N) : Alk (g_X11_bright F x) (g_X12_bright F x) σ N := by
  have sm := r.same (N' := N + 1) (by omega) (fun _ _ _ => rfl) (fun _ _ _ => rfl)
  obtain ⟨hp, h08, h08n, h20, h20n, hP, hR, h11, h9, h10, hB, hst, hla, h57, h60, h62⟩ := r.now
  obtain ⟨n, q, h3, -, -, -⟩ := r.q
  unfold Alk g_X11_bright g_X12_bright g_X11_bright_b30
  by_cases c : 1 ≤ x ∧ x ≤ 60 ∧ σ 20 4 ≤ 999 - x
  · obtain ⟨k, ek⟩ : ∃ k : Nat, x = (k : Int) := ⟨x.toNat, by omega⟩
    subst ek
    obtain ⟨w, σ1, t1, t2, t3⟩ := j_bro (F := F) (k := k) hF r q h3 (by omega) 10 F σ (by omega) (by omega) (fun _ _ => rfl)
    obtain ⟨τ', z1, z2, z3, z4, z5⟩ := t3 σ1 σ1 t2 TryG.rfl' (by rw [t2 86 (by decide)]; exact h57) (by rw [t2 86 (by decide)]; exact h60) (by rw [t2 86 (by decide)]; exact h62)
    refine ⟨w, σ1, τ', p, s, e_mob (zc_may hx hst.2 (by decide) (by decide)) ?_, e_mob (zr_ahead hx (by rw [t2 110 (by decide), hst.1]; exact hst.2) (by decide) (by decide)) ?_, (r.g q.2.2.1 t2 z2).2.2.2.2.2.2 z3 z4 z5⟩
    · rw [mb_t c]
      refine e_f (by decide) (e_mob ?_ rfl)
      unfold g_X0_brightestLamp
      exact t1
    · rw [t2 110 (by decide), hst.1, mb_t c]
      exact e_t (by decide) z1
  · refine ⟨-1, σ, σ, p, s, e_mob (zc_may hx hst.2 (by decide) (by decide)) ?_, e_mob (zr_ahead hx (by rw [hst.1]; exact hst.2) (by decide) (by decide)) ?_, sm⟩
    · rw [mb_f c]
      exact e_t (by decide) rfl
    · rw [hst.1, mb_f c]
      exact e_f (by decide) rfl
