/-! LAYER 2: steps -/
def CNw (p n : Nat) (lamp step : Int) (A : Nat → Nat → Int) (T : Int) (ring : Nat → Int) (S : Int) (υ σa : mMem) : Prop := (∀ j, j < n → BEq (cB υ 21 j) (A j)) ∧ υ 20 3 = (p : Int) ∧ υ 20 4 = step ∧ υ 20 5 = lamp ∧ υ 54 2 = T ∧ υ 76 = ring ∧ υ 0 12 = S ∧ ActC υ σa
def RNw (n : Nat) (lamp step : Int) (A : Nat → Nat → Int) (T : Int) (ring : Nat → Int) (S : Int) (τ τa : mMem) : Prop := (∀ j, j < n → BEq (rB τ 0 j) (A j) ∧ 0 ≤ τ 112 j ∧ τ 112 j ≤ 80) ∧ τ 110 0 = step ∧ τ 111 0 = lamp ∧ KRel τ 0 T ring ∧ τ 86 54 = S ∧ ActR τ τa
theorem CNw.step {F p n : Nat} {π υ σa : mMem} {lamp step T S : Int} {A : Nat → Nat → Int} {ring : Nat → Int} (hF : 2000 ≤ F) (hn : n ≤ 6) (hp : p = 3 ∨ p = 8) (hπ : PEq σa π p) (hP : PlC π p) (h11 : π p 11 = (n : Int)) (hl : 0 ≤ lamp ∧ lamp ≤ 9) (hst : 0 ≤ step ∧ step ≤ 998) (hT : 0 ≤ T ∧ T ≤ 100000000) (hA : ∀ j, j < n → BR (π p 9) (π p 10) (A j)) (h : CNw p n lamp step A T ring S υ σa) : ∃ υ', g_X11_passStep F υ = some (xSum (xWf π p lamp step 0 0 A) n, υ') ∧ CNw p n lamp (step + 1) (xPs π p lamp step 0 0 n A) (xK π p lamp step 0 0 A n (T, ring)).1 (xK π p lamp step 0 0 A n (T, ring)).2 S υ' σa := by
  obtain ⟨h1, h2, h3, h4, h5, h6, h7, c1, c2, c3, c4, c5⟩ := h
  have z0 : step + ((0 : Nat) : Int) = step := by omega
  have hI : ∀ j, xIt π p n lamp step 0 A (0 + 1) j = xPs π p lamp step 0 0 n A j := fun j => by
    show xPs π p lamp (step + ((0 : Nat) : Int)) ((0 : Nat) : Int) 0 n A j = xPs π p lamp step 0 0 n A j
    rw [z0]
    rfl
  have pe : PEq υ π p := ⟨(c1 p (by omega)).trans hπ.1, (c1 (p + 1) (by omega)).trans hπ.2.1, (c1 (p + 4) (by omega)).trans hπ.2.2⟩
  obtain ⟨υ1, a1, ⟨f1, f2, f3, f4, f5⟩, a3, -, a6, -⟩ := zc_try (F := F) (p := p) (n := n) (m := 0) (o := 20) (π := π) (σ := υ) (σ0 := υ) (lamp := lamp) (step := step) (delay := 0) (made := 0) (A := A) hn hF hp (by decide) pe hP h11 hl (by omega) (by decide) (by decide) (fun _ _ => Iff.rfl) hA ⟨fun _ _ => rfl, h1, h2, by rw [h3, z0], h4⟩
  rw [z0] at a3 a6
  have f2' : ∀ j, j < n → BEq (cB υ1 21 j) (xPs π p lamp step 0 0 n A j) := fun j hj => by
    rw [← hI j]
    exact f2 j hj
  have u54 : υ1 54 = υ 54 := f1 54 (by omega)
  have u76 : υ1 76 = υ 76 := f1 76 (by omega)
  have ps := fun j hj => (xIt_BR (lamp := lamp) (step := step) (delay := 0) hA 1 j hj).c9 hP.1.2 hP.2.1.2
  obtain ⟨υ2, b1, b2, b3, b4, b5⟩ := zc_keepStep (F := F) (p := p) (n := n) (π := π) (σ := υ1) (lamp := lamp) (step := step) (A := A) hF (by omega) (by omega) (by rw [f1 p (by omega), pe.1]; exact h11) hn (by rw [f4]; omega) hst a3 f2' (fun j hj => by rw [← hI j]; exact ps j hj) (by rw [u54, h5]; exact hT)
  rw [u54, h5, u76, h6] at b4 b5
  refine ⟨υ2, ?_, fun j hj => ?_, ?_, ?_, ?_, b4, b5, ?_, fun q hq => ?_, fun j hj => ?_, ?_, ?_, ?_⟩
  · unfold g_X11_passStep
    refine e_mob a1 (e_mob b1 ?_)
    rw [b2 20 (by decide) (by decide), a6]
    rfl
  · have e : cB υ2 21 j = cB υ1 21 j := by
      funext g
      dsimp only [cB]
      rw [b2 21 (by decide) (by decide)]
    rw [e]
    exact f2' j hj
  · rw [b2 20 (by decide) (by decide)]; exact f3
  · rw [b2 20 (by decide) (by decide), f4]; omega
  · rw [b2 20 (by decide) (by decide)]; exact f5
  · rw [b2 0 (by decide) (by decide), f1 0 (by omega)]; exact h7
  · rw [b2 q (by omega) (by omega), f1 q (by omega)]; exact c1 q hq
  · rw [b2 0 (by decide) (by decide), f1 0 (by omega)]; exact c2 j hj
  · rw [b2 20 (by decide) (by decide), f3, ← h2]; exact c3
  · rw [b3 3 (by decide), u54]; exact c4
  · rw [b3 4 (by decide), u54]; exact c5
theorem RNw.step {F p n m : Nat} {π τ τa : mMem} {lamp step T S : Int} {A : Nat → Nat → Int} {ring : Nat → Int} (hF : 2000 ≤ F) (hn : n ≤ 6) (hm : m ≤ 1000) (hR : PlR π p τa) (hP : PlC π p) (h11 : π p 11 = (n : Int)) (hl : 0 ≤ lamp ∧ lamp ≤ 9) (hst : 0 ≤ step ∧ step ≤ 998) (h57 : τa 86 57 = -1) (h60 : τa 86 60 = -1) (h62 : τa 86 62 = 0) (hA : ∀ j, j < n → BR (π p 9) (π p 10) (A j)) (h : RNw n lamp step A T ring S τ τa) : ∃ τ', g_X12_passes F 0 (m : Int) τ = some (0, τ') ∧ RNw n lamp (step + 1) (xPs π p lamp step 0 0 n A) (xK π p lamp step 0 0 A n (T, ring)).1 (xK π p lamp step 0 0 A n (T, ring)).2 S τ' τa ∧ τ' 86 63 = xBits (xWf π p lamp step 0 0 A) n := by
  obtain ⟨h1, h2, h3, h4, h5, d1, d2, d3, d4⟩ := h
  have pn : (π p 11).toNat = n := by omega
  have z6 : ∀ j, 6 * 0 + j = j := fun j => by omega
  obtain ⟨τ', a1, a2, a3, a4, a5, a6, a7, a8, a9, a10, a11, a12, a13⟩ := zr_passes (F := F) (p := p) (v := 0) (n := n) (π := π) (τ := τ) (lamp := lamp) (step := step) (made := (m : Int)) (delay := 0) (T := T) (ring := ring) (by decide) hn hF (hR.same (fun q q1 q2 => d1 q (by omega) (by omega)) (d3 13 (by decide) (by decide) (by decide))) hP h11 h3 h2 hl (by omega) (by rw [d3 57 (by decide) (by decide) (by decide), h57]; decide) (by rw [d3 60 (by decide) (by decide) (by decide), h60]; decide)
    (fun j hj => ⟨by rw [z6]; exact (h1 j hj).2, (hA j hj).congr (h1 j hj).1⟩) (by omega) (by rw [d3 62 (by decide) (by decide) (by decide), h62]) (by decide) h4
  have hb : ∀ j, j < n → BEq (rB τ 0 j) (A j) := fun j hj => (h1 j hj).1
  have hmm : ∀ k : Nat, k < n → (((k : Int) * 0 ≤ (m : Int)) ↔ ((k : Int) * 0 ≤ 0)) := fun k _ => made0.symm
  have cp := xPs_c (π := π) (π' := π) (lamp := lamp) (step := step) PEq.rfl' pn hmm hb n (by omega)
  have ck := xK_c (π := π) (π' := π) (lamp := lamp) (step := step) PEq.rfl' pn hmm hb (T, ring) n (by omega)
  have cw : xBits (xWf π p lamp step (m : Int) 0 (rB τ 0)) n = xBits (xWf π p lamp step 0 0 A) n := by
    have : ∀ k, k ≤ n → xBits (xWf π p lamp step (m : Int) 0 (rB τ 0)) k = xBits (xWf π p lamp step 0 0 A) k := by
      intro k
      induction k with
      | zero => intro _; rfl
      | succ k ih =>
        intro hk
        unfold xBits
        rw [ih (by omega), (xWf_c (π := π) (π' := π) (lamp := lamp) (step := step) PEq.rfl' pn hmm hb (k := k) (by omega)).1]
    exact this n (by omega)
  rw [ck] at a11
  refine ⟨τ', a1, ⟨fun j hj => ⟨fun g hg => ?_, ?_⟩, ?_, ?_, a11, ?_, fun q q1 q2 => ?_, fun q hq => ?_, fun j j1 j2 j3 => ?_, fun L l1 l2 => LE.tr (b := τ) (B := L) ⟨?_, ?_, ?_, fun q q1 q2 k hk => ?_, fun k _ _ => ?_⟩ (d4 L l1 l2)⟩, by rw [a9, cw]⟩
  · rw [a7 j hj g hg, cp j hj g hg]
  · have := a8 j hj
    rw [z6] at this
    exact this
  · rw [a5, mup1_at rfl]
  · rw [a2 111 (by decide) (by decide) (by decide)]; exact h3
  · rw [a4 54 (by decide) (by decide)]; exact h5
  · rw [a2 q (by omega) q2 (by omega)]; exact d1 q q1 q2
  · rw [a3 q (by omega)]; exact d2 q hq
  · rw [a4 j j2 j3]; exact d3 j j1 j2 j3
  · rw [a5, mup1_ne (by omega)]
  · rw [a2 111 (by decide) (by decide) (by decide)]
  · exact a12 L (by omega)
  · exact a6 q q1 q2 _ (by omega)
  · exact a13 _ (by omega)
/-- both stand alike again -/
theorem RN.fin {p n : Nat} {σ σa σ1 τa τ : mMem} {lamp step T S N : Int} {A : Nat → Nat → Int} {ring : Nat → Int} (hp : p = 3 ∨ p = 8) (hn : n ≤ 6) (hσ : σa p = σ p) (h11 : σ p 11 = (n : Int)) (hA : ∀ j, j < n → BR (σ p 9) (σ p 10) (A j)) (hst : 0 ≤ step ∧ step ≤ 999) (hl : 0 ≤ lamp ∧ lamp ≤ 9) (hT : T ≤ 600 * N) (hS : 0 ≤ S ∧ S ≤ 2147483647) (hc : CNw p n lamp step A T ring S σ1 σa) (hr : RNw n lamp step A T ring S τ τa) (low : ∀ q, ((q < 110 ∧ q ≠ 86) ∨ 118 < q) → τa q = σ1 q) (h57 : τa 86 57 = -1) (h60 : τa 86 60 = -1) (h62 : τa 86 62 = 0) : RS τ ∧ RN τ p N := by
  obtain ⟨c1, c2, c3, c4, c5, c6, c7, cA⟩ := hc
  obtain ⟨r1, r2, r3, r4, r5, d1, d2, d3, d4⟩ := hr
  have lo : ∀ q, q < 110 → q ≠ 86 → τ q = σ1 q := fun q q1 q2 => by rw [d1 q q1 q2, low q (by omega)]
  have ep : τ p = σ p := by rw [lo p (by omega) (by omega), cA.1 p (by omega), hσ]
  refine ⟨?_, ⟨fun k hk => ?_, ?_, ?_, ?_, ?_⟩, ?_, ?_, ?_⟩
  · unfold RS
    rw [r5, lo 0 (by decide) (by decide), c7]
    exact ⟨rfl, hS⟩
  · rw [ep] at hk ⊢
    have hk' : k < n := by omega
    have e : cB τ 21 k = cB σ1 21 k := by
      funext g
      dsimp only [cB]
      rw [lo 21 (by decide) (by decide)]
    rw [e]
    refine ⟨fun g hg => ?_, ?_, (hA k hk').congr (r1 k hk').1⟩
    · rw [c1 k hk' g hg, (r1 k hk').1 g hg]
    · rw [show 6 * 0 + k = k by omega]
      exact (r1 k hk').2
  · rw [r2, lo 20 (by decide) (by decide), c3]; exact ⟨rfl, hst⟩
  · rw [r3, lo 20 (by decide) (by decide), c4]; exact ⟨rfl, hl⟩
  · rw [lo 54 (by decide) (by decide), c5, lo 76 (by decide) (by decide), c6]; exact r4
  · rw [lo 54 (by decide) (by decide), c5]; exact hT
  · rw [d3 57 (by decide) (by decide) (by decide)]; exact h57
  · rw [d3 60 (by decide) (by decide) (by decide)]; exact h60
  · rw [d3 62 (by decide) (by decide) (by decide)]; exact h62
