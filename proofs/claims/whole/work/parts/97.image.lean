/-! LAYER 2: image -/
def IC (σ : mMem) (len : Nat) (B : Nat → Int) : Prop := σ 77 1 = (len : Int) ∧ ∀ j, j < len → σ 78 j = B j
def IR (τ : mMem) (len : Nat) (B : Nat → Int) : Prop := τ 86 71 = (len : Int) ∧ ∀ j, j < len → τ 125 j = B j
def FI (σ' σ : mMem) : Prop := (∀ q, q ≠ 77 → q ≠ 78 → σ' q = σ q)
def FJ (τ' τ : mMem) : Prop := (∀ q, q ≠ 86 → q ≠ 125 → τ' q = τ q) ∧ ∀ j, j ≠ 71 → τ' 86 j = τ 86 j
theorem FI.tr {a b c : mMem} (h : FI a b) (g : FI b c) : FI a c := fun q q1 q2 => (h q q1 q2).trans (g q q1 q2)
theorem FJ.tr {a b c : mMem} (h : FJ a b) (g : FJ b c) : FJ a c := ⟨fun q q1 q2 => (h.1 q q1 q2).trans (g.1 q q1 q2), fun j hj => (h.2 j hj).trans (g.2 j hj)⟩
theorem zi_c {F len : Nat} {σ : mMem} {B : Nat → Int} {v : Int} (hl : len < 52) (h : IC σ len B) : ∃ σ', g_X4_add F v σ = some (0, σ') ∧ IC σ' (len + 1) (mup1 B len v) ∧ FI σ' σ := by
  obtain ⟨h1, h2⟩ := h
  refine ⟨mup (mup σ 78 len v) 77 1 ((len : Int) + 1), ?_, ⟨by rw [mup_at rfl rfl]; omega, fun j hj => ?_⟩, fun q q1 q2 => by rw [mup_off q1, mup_off q2]⟩
  · unfold g_X4_add g_X4_add_b39
    rw [h1, mwN (by omega), mw_id (z := (len : Int)) (by omega) (by omega), mw_id (z := 52) (by decide) (by decide)]
    refine e_f (by omega) (e_f (by omega) (e_t (by omega) (e_mem (e_mem ?_))))
    rw [mup_off (o := 78) (q := 77) (by decide), h1]
  · rw [mup_off (by decide), mup_row]
    by_cases c : j = len
    · rw [mup1_at c, mup1_at c]
    · rw [mup1_ne c, mup1_ne c]
      exact h2 j (by omega)
theorem and255 {v : Int} (h : 0 ≤ v ∧ v ≤ 255) : mand v 255 = v := by
  rw [mand_k 8 255 (by decide) (by omega) (by decide)]
  omega
theorem zi_r {F len : Nat} {τ : mMem} {B : Nat → Int} {v w : Int} (hl : len < 52) (hv : mand v 255 = w) (h : IR τ len B) : ∃ τ', g_X12_writes F v τ = some (0, τ') ∧ IR τ' (len + 1) (mup1 B len w) ∧ FJ τ' τ := by
  obtain ⟨h1, h2⟩ := h
  refine ⟨mup (mup τ 125 len w) 86 71 ((len : Int) + 1), ?_, ⟨by rw [mup_at rfl rfl]; omega, fun j hj => ?_⟩, fun q q1 q2 => by rw [mup_off q1, mup_off q2], fun j hj => by rw [mup_ne (by omega), mup_off (by decide)]⟩
  · unfold g_X12_writes
    rw [h1, mwN (by omega), hv]
    refine e_t (mwR (by omega) (by decide)) (e_mem (e_mem ?_))
    rw [mup_off (o := 125) (q := 86) (by decide), h1]
  · rw [mup_off (by decide), mup_row]
    by_cases c : j = len
    · rw [mup1_at c, mup1_at c]
    · rw [mup1_ne c, mup1_ne c]
      exact h2 j (by omega)
theorem pair_n {v : Int} (h : 0 ≤ v ∧ v ≤ 65535) : mshr v 8 = v / 256 ∧ mand v 255 = v % 256 ∧ mand (mshr v 8) 255 = v / 256 := by
  have e : mshr v 8 = v / 256 := by
    rw [mshr_n 8 (by omega) (by omega) (by decide)]
    rfl
  refine ⟨e, ?_, ?_⟩
  · rw [mand_k 8 255 (by decide) (by omega) (by decide)]
    rfl
  · rw [e, and255 (by omega)]
theorem zi_c2 {F len : Nat} {σ : mMem} {B : Nat → Int} {v : Int} (hv : 0 ≤ v ∧ v ≤ 65535) (hl : len + 1 < 52) (h : IC σ len B) : ∃ σ', g_X4_addPair F v σ = some (0, σ') ∧ IC σ' (len + 1 + 1) (mup1 (mup1 B len (v / 256)) (len + 1) (v % 256)) ∧ FI σ' σ := by
  obtain ⟨p1, p2, -⟩ := pair_n hv
  obtain ⟨σ1, a1, a2, a3⟩ := zi_c (F := F) (v := v / 256) (by omega) h
  obtain ⟨σ2, b1, b2, b3⟩ := zi_c (F := F) (v := v % 256) hl a2
  refine ⟨σ2, ?_, b2, b3.tr a3⟩
  unfold g_X4_addPair
  rw [p1, p2]
  exact e_mob a1 (e_mob b1 rfl)
theorem zi_r2 {F len : Nat} {τ : mMem} {B : Nat → Int} {v : Int} (hv : 0 ≤ v ∧ v ≤ 65535) (hl : len + 1 < 52) (h : IR τ len B) : ∃ τ', g_X12_writesTwo F v τ = some (0, τ') ∧ IR τ' (len + 1 + 1) (mup1 (mup1 B len (v / 256)) (len + 1) (v % 256)) ∧ FJ τ' τ := by
  obtain ⟨p1, p2, p3⟩ := pair_n hv
  obtain ⟨τ1, a1, a2, a3⟩ := zi_r (F := F) (v := mshr v 8) (by omega) p3 h
  obtain ⟨τ2, b1, b2, b3⟩ := zi_r (F := F) (v := v) hl p2 a2
  refine ⟨τ2, ?_, b2, b3.tr a3⟩
  unfold g_X12_writesTwo
  exact e_mob a1 (e_mob b1 rfl)
def xB8 (B : Nat → Int) (l : Nat) (A : Nat → Int) : Nat → Int := mup1 (mup1 (mup1 (mup1 (mup1 (mup1 (mup1 (mup1 B l (A 0)) (l + 1) (A 1)) (l + 1 + 1) (A 2)) (l + 1 + 1 + 1) (A 3 / 256)) (l + 1 + 1 + 1 + 1) (A 3 % 256)) (l + 1 + 1 + 1 + 1 + 1) (A 4)) (l + 1 + 1 + 1 + 1 + 1 + 1) (A 8 / 256)) (l + 1 + 1 + 1 + 1 + 1 + 1 + 1) (A 8 % 256)
def oct (B : Nat → Int) (len : Nat) : Prop := ∀ j, j < len → 0 ≤ B j ∧ B j ≤ 255
theorem oct.add {B : Nat → Int} {len : Nat} {v : Int} (h : oct B len) (hv : 0 ≤ v ∧ v ≤ 255) : oct (mup1 B len v) (len + 1) := by
  intro j hj
  by_cases c : j = len
  · rw [mup1_at c]; exact hv
  · rw [mup1_ne c]; exact h j (by omega)
theorem oct.b8 {B A : Nat → Int} {len : Nat} {C R : Int} (h : oct B len) (hA : BR C R A) (hC : C ≤ 9) (hR : R ≤ 9) : oct (xB8 B len A) (len + 8) := by
  obtain ⟨b0, b2, b3, b4, b5, b6, b7, b8⟩ := hA
  exact (((((((h.add (by omega)).add (by omega)).add (by omega)).add (by omega)).add (by omega)).add (by omega)).add (by omega)).add (by omega)
/-- the check, in both -/
theorem j_sum {F : Nat} {len : Nat} {B : Nat → Int} (hl : len < 52) (hB : oct B len) {σ : mMem} (h : IC σ len B) : ∀ (d i fuel : Nat) (c : Int), d + i = len → d < fuel → 0 ≤ c ∧ c ≤ 250 → ∃ (v : Int) (σ' : mMem), (0 ≤ v ∧ v ≤ 250) ∧ g_X4_write_h107 F 20 fuel c (i : Int) σ = some (((len + 1 : Nat) : Int), σ') ∧ IC σ' (len + 1) (mup1 B len v) ∧ FI σ' σ ∧ ∀ τ, IR τ len B → ∃ τ', g_X12_image_h118 F fuel c (i : Int) τ = some (((len + 1 : Nat) : Int), τ') ∧ IR τ' (len + 1) (mup1 B len v) ∧ FJ τ' τ := by
  intro d
  induction d with
  | zero =>
    intro i fuel c h1 h2 h3
    obtain ⟨f, rfl⟩ : ∃ f, fuel = f + 1 := ⟨fuel - 1, by omega⟩
    have ei : i = len := by omega
    subst ei
    obtain ⟨σ', a1, a2, a3⟩ := zi_c (F := F) (v := c) hl h
    refine ⟨c, σ', h3, ?_, a2, a3, fun τ hr => ?_⟩
    · unfold g_X4_write_h107
      rw [h.1]
      refine e_t (Int.le_refl _) (e_mob a1 ?_)
      rw [a2.1]
    · obtain ⟨τ', b1, b2, b3⟩ := zi_r (F := F) (v := c) hl (and255 (by omega)) hr
      refine ⟨τ', ?_, b2, b3⟩
      unfold g_X12_image_h118
      rw [hr.1]
      refine e_t (Int.le_refl _) (e_mob b1 ?_)
      rw [b2.1]
  | succ d ih =>
    intro i fuel c h1 h2 h3
    obtain ⟨f, rfl⟩ : ∃ f, fuel = f + 1 := ⟨fuel - 1, by omega⟩
    have bi := hB i (by omega)
    obtain ⟨v, σ', t1, t2, t3, t4, t5⟩ := ih (i + 1) f ((5 * c + B i) % 251) (by omega) (by omega) (by omega)
    refine ⟨v, σ', t1, ?_, t3, t4, fun τ hr => ?_⟩
    · rw [← t2]
      conv => lhs; unfold g_X4_write_h107
      rw [h.1]
      have by' : g_X4_byteAt F (i : Int) σ = some (B i, σ) := by
        unfold g_X4_byteAt g_X4_byteAt_b31
        rw [h.1, mwN (by omega), mw_id (z := (i : Int)) (by omega) (by omega), mw_id (z := (len : Int)) (by omega) (by omega), mw_id (z := 52) (by decide) (by decide), h.2 i (by omega)]
        exact e_f (by omega) (e_f (by omega) (e_t (by omega) (e_t (by omega) rfl)))
      refine e_f (by rw [mw_id (by omega) (by omega), mw_id (by omega) (by omega)]; omega) (e_mob by' (e_mob (r := (5 * c + B i) % 251) (σ := σ) ?_ ?_))
      · unfold g_X4_checkedBy
        rw [mw_id (z := 5 * c + B i) (by omega) (by omega), mw_id (z := 251) (by decide) (by decide), mtmod (by omega)]
        exact e_f (by decide) rfl
      · rw [show ((i + 1 : Nat) : Int) = (i : Int) + 1 by omega]
    · obtain ⟨τ', u1, u2, u3⟩ := t5 τ hr
      refine ⟨τ', ?_, u2, u3⟩
      rw [← u1]
      conv => lhs; unfold g_X12_image_h118
      rw [hr.1, mwN (i := i) (by omega), hr.2 i (by omega), mw_id (z := 5 * c + B i) (by omega) (by omega), mw_id (z := 251) (by decide) (by decide), mtmod (by omega)]
      refine e_f (by rw [mw_id (by omega) (by omega), mw_id (by omega) (by omega)]; omega) (e_t (mwR (by omega) (by decide)) (e_f (by decide) (e_let ?_)))
      rw [show ((i + 1 : Nat) : Int) = (i : Int) + 1 by omega]
theorem j_boxes {F p n : Nat} {σ : mMem} {A : Nat → Nat → Int} (hF : 2000 ≤ F) (hn : n ≤ 6) (hp : p = 3 ∨ p = 8) (h3 : σ 20 3 = (p : Int)) (h11 : σ p 11 = (n : Int)) (hC : σ p 9 ≤ 9) (hR : σ p 10 ≤ 9) (hA : ∀ j, j < n → BR (σ p 9) (σ p 10) (A j)) (hE : ∀ j, j < n → BEq (cB σ 21 j) (A j)) : ∀ (d k fuel len : Nat) (B : Nat → Int) (υ : mMem), d + k = n → d < fuel → len = 3 + 8 * k → oct B len → IC υ len B → FI υ σ → ∃ (x : Int) (len' : Nat) (B' : Nat → Int) (σ' : mMem), g_X4_write_h23 F 20 fuel (k : Int) υ = some (x, σ') ∧ len' ≤ 52 ∧ oct B' len' ∧ IC σ' len' B' ∧ FI σ' σ ∧ ∀ τ0 τ, PlR σ p τ0 → (∀ j, j < n → BEq (rB τ0 0 j) (A j) ∧ 0 ≤ τ0 112 j ∧ τ0 112 j ≤ 80) → IR τ len B → FJ τ τ0 → ∃ τ', g_X12_image_h27 F fuel (k : Int) τ = some (x, τ') ∧ IR τ' len' B' ∧ FJ τ' τ0 := by
  intro d
  induction d with
  | zero =>
    intro k fuel len B υ h1 h2 h4 hB h hf
    obtain ⟨f, rfl⟩ : ∃ f, fuel = f + 1 := ⟨fuel - 1, by omega⟩
    have ek : k = n := by omega
    subst ek
    obtain ⟨v, σ', a1, a2, a3, a4, a5⟩ := j_sum (F := F) (by omega) hB h len 0 F 179 (by omega) (by omega) (by decide)
    refine ⟨((len + 1 : Nat) : Int), len + 1, mup1 B len v, σ', ?_, by omega, hB.add (by omega), a3, a4.tr hf, fun τ0 τ hR0 _ hr hj => ?_⟩
    · unfold g_X4_write_h23
      rw [hf 20 (by decide) (by decide), h3, show ((p : Int)).toNat = p by omega, hf p (by omega) (by omega), h11]
      exact e_t (by omega) (e_t (Int.le_refl _) a2)
    · obtain ⟨τ', b1, b2, b3⟩ := a5 τ hr
      refine ⟨τ', ?_, b2, b3.tr hj⟩
      have b13 := hR0.1
      unfold g_X12_image_h27
      rw [hj.2 13 (by decide), mw_id (z := τ0 86 13) (by omega) (by omega), hj.1 91 (by decide) (by decide), hR0.2.2.2.1, h11]
      exact e_t (by omega) (e_t (Int.le_refl _) b1)
  | succ d ih =>
    intro k fuel len B υ h1 h2 h4 hB h hf
    obtain ⟨f, rfl⟩ : ∃ f, fuel = f + 1 := ⟨fuel - 1, by omega⟩
    have kn : k < n := by omega
    have hA8 := hA k kn
    obtain ⟨b0, b2, b3, b4, b5, b6, b7, b8⟩ := hA8
    have rd : ∀ (υ' : mMem) (g : Nat), FI υ' σ → g < 9 → υ' (20 + 1) (10 * k + g) = A k g := fun υ' g hfi hg => by
      rw [show 20 + 1 = 21 by decide, hfi 21 (by decide) (by decide)]
      exact hE k kn g hg
    obtain ⟨υ1, a1, c1, f1⟩ := zi_c (F := F) (v := A k 0) (by omega) h
    obtain ⟨υ2, a2, c2, f2⟩ := zi_c (F := F) (v := A k 1) (by omega) c1
    obtain ⟨υ3, a3, c3, f3⟩ := zi_c (F := F) (v := A k 2) (by omega) c2
    obtain ⟨υ4, a4, c4, f4⟩ := zi_c2 (F := F) (v := A k 3) (by omega) (by omega) c3
    obtain ⟨υ5, a5, c5, f5⟩ := zi_c (F := F) (v := A k 4) (by omega) c4
    obtain ⟨υ6, a6, c6, f6⟩ := zi_c2 (F := F) (v := A k 8) (by omega) (by omega) c5
    have g1 := f1.tr hf
    have g2 := f2.tr g1
    have g3 := f3.tr g2
    have g4 := f4.tr g3
    have g5 := f5.tr g4
    have g6 := f6.tr g5
    obtain ⟨x, len', B', σ', t1, t2, t3, t4, t5, t6⟩ := ih (k + 1) f (len + 8) (xB8 B len (A k)) υ6 (by omega) (by omega) (by omega) (hB.b8 (hA k kn) hC hR) c6 g6
    refine ⟨x, len', B', σ', ?_, t2, t3, t4, t5, fun τ0 τ hR0 hE0 hr hj => ?_⟩
    · rw [← t1]
      conv => lhs; unfold g_X4_write_h23
      rw [hf 20 (by decide) (by decide), h3, show ((p : Int)).toNat = p by omega, hf p (by omega) (by omega), h11]
      refine e_t (by omega) (e_f (by rw [mw_id (by omega) (by omega), mw_id (by omega) (by omega)]; omega) ?_)
      refine e_mob (zo_0 (by omega)) ?_
      rw [rd υ 0 hf (by decide)]
      refine e_mob a1 (e_mob (zo_1 (by omega)) ?_)
      rw [rd υ1 1 g1 (by decide)]
      refine e_mob a2 (e_mob (zo_2 (by omega)) ?_)
      rw [rd υ2 2 g2 (by decide)]
      refine e_mob a3 (e_mob (zo_3 (by omega)) ?_)
      rw [rd υ3 3 g3 (by decide)]
      refine e_mob a4 (e_mob (zo_4 (by omega)) ?_)
      rw [rd υ4 4 g4 (by decide)]
      refine e_mob a5 (e_mob (zo_8 (by omega)) ?_)
      rw [rd υ5 8 g5 (by decide)]
      refine e_mob a6 ?_
      rw [show ((k + 1 : Nat) : Int) = (k : Int) + 1 by omega]
    · have E := (hE0 k kn).1
      have cr := (hE0 k kn).2
      have E0 := E 0 (by decide)
      have E1 := E 1 (by decide)
      have E2 := E 2 (by decide)
      have E3 := E 3 (by decide)
      have E4 := E 4 (by decide)
      have E8 := E 8 (by decide)
      rw [rB_0, show 6 * 0 + k = k by omega] at E0
      rw [rB_1, show 6 * 0 + k = k by omega] at E1
      rw [rB_2, show 6 * 0 + k = k by omega] at E2
      rw [rB_3, show 6 * 0 + k = k by omega] at E3
      rw [rB_4, show 6 * 0 + k = k by omega] at E4
      rw [rB_8, show 6 * 0 + k = k by omega] at E8
      obtain ⟨τ1, y1, z1, w1⟩ := zi_r (F := F) (v := A k 0) (by omega) (and255 (by omega)) hr
      obtain ⟨τ2, y2, z2, w2⟩ := zi_r (F := F) (v := A k 1) (by omega) (and255 (by omega)) z1
      obtain ⟨τ3, y3, z3, w3⟩ := zi_r (F := F) (v := A k 2) (by omega) (and255 (by omega)) z2
      obtain ⟨τ4, y4, z4, w4⟩ := zi_r2 (F := F) (v := A k 3) (by omega) (by omega) z3
      obtain ⟨τ5, y5, z5, w5⟩ := zi_r (F := F) (v := A k 4) (by omega) (and255 (by omega)) z4
      obtain ⟨τ6, y6, z6, w6⟩ := zi_r2 (F := F) (v := A k 8) (by omega) (by omega) z5
      have j1 := w1.tr hj
      have j2 := w2.tr j1
      have j3 := w3.tr j2
      have j4 := w4.tr j3
      have j5 := w5.tr j4
      have j6 := w6.tr j5
      obtain ⟨τ', u1, u2, u3⟩ := t6 τ0 τ6 hR0 hE0 z6 j6
      refine ⟨τ', ?_, u2, u3⟩
      rw [← u1]
      conv => lhs; unfold g_X12_image_h27
      have b13 := hR0.1
      rw [hj.2 13 (by decide), mw_id (z := τ0 86 13) (by omega) (by omega), hj.1 91 (by decide) (by decide), hR0.2.2.2.1, h11, mwN (i := k) (by omega), hj.1 112 (by decide) (by decide), mw_id (z := τ0 112 k) (by omega) (by omega), mw_id (z := 9) (by decide) (by decide), mtmod (by omega), E0]
      have rk := mwR (i := k) (z := 132) (by omega) (by decide)
      refine e_t (by omega) (e_f (by rw [mw_id (by omega) (by omega), mw_id (by omega) (by omega)]; omega) (e_t rk (e_f (by decide) (e_mob y1 ?_))))
      rw [j1.1 112 (by decide) (by decide), mw_id (z := τ0 112 k) (by omega) (by omega), mtdiv (by omega), E1]
      refine e_t rk (e_f (by decide) (e_mob y2 ?_))
      rw [j2.1 113 (by decide) (by decide), E2]
      refine e_t rk (e_mob y3 ?_)
      rw [j3.1 114 (by decide) (by decide), E3]
      refine e_t rk (e_mob y4 ?_)
      rw [j4.1 115 (by decide) (by decide), E4]
      refine e_t rk (e_mob y5 ?_)
      rw [j5.1 116 (by decide) (by decide), E8]
      refine e_t rk (e_mob y6 ?_)
      rw [show ((k + 1 : Nat) : Int) = (k : Int) + 1 by omega]
theorem a_image {F : Nat} {σ : mMem} {p s : Nat} {N : Int} (hF : 2000 ≤ F) (r : Rel σ p s N) : Alk (g_X11_image F) (g_X12_image F) σ N := by
  obtain ⟨hp, h08, h08n, h20, h20n, hP, hR, h11, h9, h10, hB, hst, hla, h57, h60, h62⟩ := r.now
  obtain ⟨n, en⟩ : ∃ n : Nat, σ p 11 = (n : Int) := ⟨(σ p 11).toNat, by omega⟩
  have i0 : IC (mup σ 77 1 0) 0 (fun _ => 0) := ⟨mup_at rfl rfl, fun j hj => absurd hj (by omega)⟩
  have f0 : FI (mup σ 77 1 0) σ := fun q q1 q2 => mup_off q1
  obtain ⟨υ1, a1, c1, f1⟩ := zi_c2 (F := F) (v := σ 20 4) (by omega) (by omega) i0
  obtain ⟨υ2, a2, c2, f2⟩ := zi_c (F := F) (v := σ 20 5) (by omega) c1
  have o3 : oct (mup1 (mup1 (mup1 (fun _ => 0) 0 (σ 20 4 / 256)) (0 + 1) (σ 20 4 % 256)) (0 + 1 + 1) (σ 20 5)) (0 + 1 + 1 + 1) := ((oct.add (B := fun _ => 0) (fun j hj => absurd hj (by omega)) (by omega)).add (by omega)).add (by omega)
  obtain ⟨x, len, B, σ1, t1, t2, t3, t4, t5, t6⟩ := j_boxes (F := F) (p := p) (n := n) (σ := σ) (A := cB σ 21) hF (by omega) hp (by omega) en h9.2 h10.2 (fun j hj => (hB j (by omega)).2.2) (fun _ _ _ _ => rfl) n 0 F _ _ υ2 (by omega) (by omega) rfl o3 c2 (f2.tr (f1.tr f0))
  have q1 : ∀ q, q ≠ 77 → q ≠ 78 → σ1 q = σ q := t5
  have i1 : IR (mup σ1 86 71 0) 0 (fun _ => 0) := ⟨mup_at rfl rfl, fun j hj => absurd hj (by omega)⟩
  have g0 : FJ (mup σ1 86 71 0) σ1 := ⟨fun q q1 q2 => mup_off q1, fun j hj => mup_ne (by omega)⟩
  obtain ⟨τ1, y1, z1, w1⟩ := zi_r2 (F := F) (v := σ 20 4) (by omega) (by omega) i1
  obtain ⟨τ2, y2, z2, w2⟩ := zi_r (F := F) (v := σ 20 5) (by omega) (and255 (by omega)) z1
  have e0 : ∀ j, rB σ1 0 j = rB σ 0 j := fun j => rB_copy (q1 86 (by decide) (by decide)) (q1 94 (by decide) (by decide)) (q1 95 (by decide) (by decide)) (q1 96 (by decide) (by decide)) (fun q g1 g2 => by rw [q1 q (by omega) (by omega)])
  obtain ⟨τ, u1, u2, u3⟩ := t6 σ1 τ2 (hR.same (fun q g1 g2 => q1 q (by omega) (by omega)) (by rw [q1 86 (by decide) (by decide)])) (fun j hj => by
    have := (hB j (by omega)).2.1.1
    rw [show 6 * 0 + j = j by omega] at this
    rw [e0 j, q1 112 (by decide) (by decide)]
    exact ⟨fun g hg => ((hB j (by omega)).1 g hg).symm, this⟩) z2 (w2.tr (w1.tr g0))
  have low : ∀ q, q ≠ 77 → q ≠ 78 → q ≠ 86 → q ≠ 125 → τ q = σ q := fun q g1 g2 g3 g4 => by rw [u3.1 q g3 g4, q1 q g1 g2]
  have t86 : ∀ j, j ≠ 71 → τ 86 j = σ 86 j := fun j hj => by rw [u3.2 j hj, q1 86 (by decide) (by decide)]
  refine ⟨x, σ1, τ, p, s, ?_, ?_, r.upd (by omega) (fun q j hq => ?_) (r.1.of (by rw [low 1 (by decide) (by decide) (by decide) (by decide)]) (low 2 (by decide) (by decide) (by decide) (by decide)) (low 87 (by decide) (by decide) (by decide) (by decide)) (t86 1 (by decide))) (r.2.1.of (by omega) (low 85 (by decide) (by decide) (by decide) (by decide)) (low 109 (by decide) (by decide) (by decide) (by decide))) (r.2.2.1.of (by rw [low 0 (by decide) (by decide) (by decide) (by decide)]) (by rw [low 0 (by decide) (by decide) (by decide) (by decide)]) (t86 10 (by decide)) (t86 11 (by decide))) (r.2.2.2.1.of (by rw [low 0 (by decide) (by decide) (by decide) (by decide)]) (t86 54 (by decide))) (r.2.2.2.2.2.2.2.1.of (by rw [low 35 (by decide) (by decide) (by decide) (by decide)]) (low 36 (by decide) (by decide) (by decide) (by decide)) (t86 66 (by decide)) (low 122 (by decide) (by decide) (by decide) (by decide)) (low 123 (by decide) (by decide) (by decide) (by decide))) ⟨?_, ?_, fun j hj => ?_⟩⟩
  · unfold g_X11_image
    refine e_mob ?_ rfl
    unfold g_X4_write
    refine e_mem ?_
    rw [mup_off (o := 77) (q := 20) (by decide)]
    refine e_mob a1 ?_
    rw [f1 20 (by decide) (by decide), mup_off (o := 77) (q := 20) (by decide)]
    exact e_mob a2 t1
  · unfold g_X12_image
    refine e_mem (e_t (by decide) ?_)
    rw [show (mw 0).toNat = 0 by decide, mup_off (o := 86) (q := 110) (by decide), q1 110 (by decide) (by decide), hst.1]
    refine e_mob y1 (e_t (by decide) ?_)
    rw [w1.1 111 (by decide) (by decide), mup_off (o := 86) (q := 111) (by decide), q1 111 (by decide) (by decide), hla.1]
    exact e_mob y2 u1
  · by_cases c86 : q = 86
    · subst c86
      exact t86 j (by omega)
    · rw [low q (by omega) (by omega) c86 (by omega)]
  · rw [u2.1, u3.1 77 (by decide) (by decide), t4.1]
  · rw [u3.1 77 (by decide) (by decide), t4.1]; omega
  · rw [u3.1 77 (by decide) (by decide), t4.1] at hj
    have o := t3 j (by omega)
    rw [u2.2 j (by omega), u3.1 78 (by decide) (by decide), t4.2 j (by omega)]
    exact ⟨rfl, by omega⟩
