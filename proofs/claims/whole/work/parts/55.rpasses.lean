/-! LAYER 2: the reference's step, whole -/
def xBits (f : Nat → Int) : Nat → Int
  | 0 => 0
  | n + 1 => xBits f n + f n * 2 ^ n
theorem or_bit : ∀ k : Fin 6, ∀ x : Fin 64, (x : Nat) < 2 ^ (k : Nat) → mor ((x : Nat) : Int) (mshl 1 ((k : Nat) : Int)) = ((x : Nat) : Int) + 2 ^ (k : Nat) := by decide
theorem xBits_rng {f : Nat → Int} : ∀ {n : Nat}, (∀ j, j < n → f j = 0 ∨ f j = 1) → 0 ≤ xBits f n ∧ xBits f n < 2 ^ n
  | 0, _ => by unfold xBits; decide
  | n + 1, h => by
    have ih := xBits_rng (f := f) (n := n) (fun j hj => h j (by omega))
    unfold xBits
    rw [Int.pow_succ]
    rcases h n (by omega) with e | e <;> rw [e] <;> omega
theorem pow6 {k : Nat} (h : k < 6) : (2 : Int) ^ k ≤ 32 := by
  rcases (by omega : k = 0 ∨ k = 1 ∨ k = 2 ∨ k = 3 ∨ k = 4 ∨ k = 5) with rfl | rfl | rfl | rfl | rfl | rfl <;> decide
theorem xBits_or {f : Nat → Int} {k : Nat} (hk : k < 6) (h : ∀ j, j < k → f j = 0 ∨ f j = 1) (h1 : f k = 1) : mor (xBits f k) (mshl 1 (k : Int)) = xBits f (k + 1) := by
  have r := xBits_rng h
  have p6 := pow6 hk
  have e := or_bit ⟨k, hk⟩ ⟨(xBits f k).toNat, by omega⟩ (by
    show (xBits f k).toNat < 2 ^ k
    have : ((2 ^ k : Nat) : Int) = (2 : Int) ^ k := by rw [Int.natCast_pow]; rfl
    omega)
  have ex : (((xBits f k).toNat : Nat) : Int) = xBits f k := by omega
  dsimp only at e
  rw [ex] at e
  rw [e]
  show _ = xBits f k + f k * 2 ^ k
  rw [h1, Int.one_mul]
theorem rB_c2 {τ τ' : mMem} (h : ∀ q, (94 ≤ q ∧ q ≤ 96) ∨ (112 ≤ q ∧ q ≤ 116) → τ' q = τ q) (h86 : ∀ j, j ≠ 63 → j ≠ 64 → τ' 86 j = τ 86 j) (v k : Nat) : rB τ' v k = rB τ v k := by
  funext f
  unfold rB
  rw [h86 57 (by decide) (by decide), h86 58 (by decide) (by decide), h86 59 (by decide) (by decide), h86 60 (by decide) (by decide), h86 61 (by decide) (by decide), h86 13 (by decide) (by decide), h 94 (by omega), h 95 (by omega), h 96 (by omega), h 112 (by omega), h 113 (by omega), h 114 (by omega), h 115 (by omega), h 116 (by omega)]
/-- one row of what is kept, as the class packs it -/
def pk (a b c d : Int) : Int := a * 2048 + b * 256 + d * 16 + c
def KOK (a b c d : Int) : Prop := (0 ≤ a ∧ a ≤ 999) ∧ (0 ≤ b ∧ b ≤ 5) ∧ (0 ≤ c ∧ c ≤ 8) ∧ (0 ≤ d ∧ d ≤ 8)
def KRel (τ : mMem) (v : Nat) (T : Int) (ring : Nat → Int) : Prop := 0 ≤ T ∧ τ 117 v = min 60 T ∧ ∀ i : Nat, (i : Int) < min 60 T → KOK (τ 118 (240 * v + 4 * i)) (τ 118 (240 * v + 4 * i + 1)) (τ 118 (240 * v + 4 * i + 2)) (τ 118 (240 * v + 4 * i + 3)) ∧ ring ((T - min 60 T + i) % 60).toNat = pk (τ 118 (240 * v + 4 * i)) (τ 118 (240 * v + 4 * i + 1)) (τ 118 (240 * v + 4 * i + 2)) (τ 118 (240 * v + 4 * i + 3))
theorem KRel.congr {τ τ' : mMem} {v : Nat} {T : Int} {ring : Nat → Int} (h : KRel τ v T ring) (e7 : τ' 117 v = τ 117 v) (e8 : ∀ j, 240 * v ≤ j → j < 240 * v + 240 → τ' 118 j = τ 118 j) : KRel τ' v T ring := by
  refine ⟨h.1, e7.trans h.2.1, fun i hi => ?_⟩
  have := h.2.2 i hi
  rw [e8 _ (by omega) (by omega), e8 _ (by omega) (by omega), e8 _ (by omega) (by omega), e8 _ (by omega) (by omega)]
  exact this
theorem KRel.app {τ τ' : mMem} {v : Nat} {T a b c d : Int} {ring : Nat → Int} (h : KRel τ v T ring) (ha : KApp τ τ' v a b c d) (hk : KOK a b c d) : KRel τ' v (T + 1) (mup1 ring (T % 60).toNat (pk a b c d)) := by
  obtain ⟨h1, h2, h3⟩ := h
  obtain ⟨a1, a2, a3, a4, a5, a6, a7⟩ := ha
  have em : min 60 (min 60 T + 1) = min 60 (T + 1) := by omega
  rw [h2, em] at a1 a3 a4 a5 a6 a7
  refine ⟨by omega, by rw [a1, mup1_at rfl], fun i hi => ?_⟩
  by_cases hl : (i : Int) + 1 < min 60 (T + 1)
  · have z0 := a3 i 0 hl (by omega)
    have z1 := a3 i 1 hl (by omega)
    have z2 := a3 i 2 hl (by omega)
    have z3 := a3 i 3 hl (by omega)
    rw [Nat.add_zero, Nat.add_zero] at z0
    rw [z0, z1, z2, z3, mup1_ne (by omega)]
    by_cases c6 : min 60 T = 60
    · rw [if_pos c6]
      have := h3 (i + 1) (by omega)
      rw [show (T - min 60 T + ((i + 1 : Nat) : Int)) = T + 1 - min 60 (T + 1) + (i : Int) by omega] at this
      exact this
    · rw [if_neg c6]
      have := h3 i (by omega)
      rw [show (T - min 60 T + (i : Int)) = T + 1 - min 60 (T + 1) + (i : Int) by omega] at this
      exact this
  · have ei : (min 60 (T + 1) - 1).toNat = i := by omega
    rw [ei] at a4 a5 a6 a7
    rw [a4, a5, a6, a7, mup1_at (by omega)]
    exact ⟨hk, rfl⟩
def xK (π : mMem) (p : Nat) (lamp step made delay : Int) (A : Nat → Nat → Int) : Nat → Int × (Nat → Int) → Int × (Nat → Int)
  | 0, s => s
  | k + 1, s => if xWf π p lamp step made delay A k = 1 then ((xK π p lamp step made delay A k s).1 + 1, mup1 (xK π p lamp step made delay A k s).2 ((xK π p lamp step made delay A k s).1 % 60).toNat (pk step (k : Int) (xPs π p lamp step made delay (k + 1) A k 0) (xPs π p lamp step made delay (k + 1) A k 1))) else xK π p lamp step made delay A k s
theorem xWf_01 {π : mMem} {p : Nat} {lamp step made delay : Int} {A : Nat → Nat → Int} (k : Nat) : xWf π p lamp step made delay A k = 0 ∨ xWf π p lamp step made delay A k = 1 := by
  unfold xWf mb
  split
  · exact Or.inr rfl
  · exact Or.inl rfl
theorem xKf_01 {π : mMem} {p : Nat} {lamp step made delay : Int} {A : Nat → Nat → Int} (k : Nat) : xKf π p lamp step made delay A k = 0 ∨ xKf π p lamp step made delay A k = 1 := by
  unfold xKf mb
  split
  · exact Or.inr rfl
  · exact Or.inl rfl
theorem xBits_0 {f : Nat → Int} {k : Nat} (h : f k = 0) : xBits f (k + 1) = xBits f k := by
  show xBits f k + f k * 2 ^ k = _
  rw [h, Int.zero_mul, Int.add_zero]
theorem PEq.rfl' {π : mMem} {p : Nat} : PEq π π p := ⟨rfl, rfl, rfl⟩
theorem zr_passes {F p v n : Nat} {π τ : mMem} {lamp step made delay T : Int} {ring : Nat → Int} (hv : v < 22) (hn : n ≤ 6) (hF : 2000 ≤ F) (hR : PlR π p τ) (hP : PlC π p) (h11 : π p 11 = (n : Int)) (hlamp : τ 111 v = lamp) (hstep : τ 110 v = step) (hl : 0 ≤ lamp ∧ lamp ≤ 9) (hst : 0 ≤ step ∧ step ≤ 999) (h57 : sml (τ 86 57)) (h60 : sml (τ 86 60)) (hB : ∀ j, j < n → BRr (π p 9) (π p 10) τ v j) (hm : 0 ≤ made ∧ made ≤ 1000) (hd : τ 86 62 = delay) (hd2 : 0 ≤ delay ∧ delay ≤ 9) (hK : KRel τ v T ring) :
    ∃ τ', g_X12_passes F (v : Int) made τ = some (0, τ') ∧ (∀ q, q < 112 → q ≠ 86 → q ≠ 110 → τ' q = τ q) ∧ (∀ q, 120 < q → τ' q = τ q) ∧ (∀ j, j ≠ 63 → j ≠ 64 → τ' 86 j = τ 86 j) ∧ τ' 110 = mup1 (τ 110) v (step + 1) ∧ (∀ q, 112 ≤ q → q ≤ 116 → ∀ j, ¬ (6 * v ≤ j ∧ j < 6 * v + n) → τ' q j = τ q j) ∧ (∀ j, j < n → BEq (rB τ' v j) (xPs π p lamp step made delay n (rB τ v) j)) ∧ (∀ j, j < n → 0 ≤ τ' 112 (6 * v + j) ∧ τ' 112 (6 * v + j) ≤ 80) ∧
      τ' 86 63 = xBits (xWf π p lamp step made delay (rB τ v)) n ∧ τ' 86 64 = xBits (xKf π p lamp step made delay (rB τ v)) n ∧ KRel τ' v (xK π p lamp step made delay (rB τ v) n (T, ring)).1 (xK π p lamp step made delay (rB τ v) n (T, ring)).2 ∧ (∀ u, u ≠ v → τ' 117 u = τ 117 u) ∧ (∀ j, ¬ (240 * v ≤ j ∧ j < 240 * v + 240) → τ' 118 j = τ 118 j) := by
  have hb := hR.1
  have q11 : τ 91 (τ 86 13).toNat = (n : Int) := by rw [hR.2.2.2.1, h11]
  have pn : (π p 11).toNat = n := by omega
  have hBR0 : ∀ j, j < n → BR (π p 9) (π p 10) (rB τ v j) := fun j hj => (hB j hj).2
  have key : ∀ (d k fuel : Nat) (υ : mMem), d + k = n → d < fuel → (∀ q, q < 112 → q ≠ 86 → υ q = τ q) → (∀ q, 120 < q → υ q = τ q) → (∀ j, j ≠ 63 → j ≠ 64 → υ 86 j = τ 86 j) → (∀ q, 112 ≤ q → q ≤ 116 → ∀ j, ¬ (6 * v ≤ j ∧ j < 6 * v + k) → υ q j = τ q j) → (∀ j, j < n → BEq (rB υ v j) (xPs π p lamp step made delay k (rB τ v) j)) → (∀ j, j < n → 0 ≤ υ 112 (6 * v + j) ∧ υ 112 (6 * v + j) ≤ 80) →
      υ 86 63 = xBits (xWf π p lamp step made delay (rB τ v)) k → υ 86 64 = xBits (xKf π p lamp step made delay (rB τ v)) k → KRel υ v (xK π p lamp step made delay (rB τ v) k (T, ring)).1 (xK π p lamp step made delay (rB τ v) k (T, ring)).2 → (∀ u, u ≠ v → υ 117 u = τ 117 u) → (∀ j, ¬ (240 * v ≤ j ∧ j < 240 * v + 240) → υ 118 j = τ 118 j) →
      ∃ τ', g_X12_passes_h12 F fuel (v : Int) made (k : Int) υ = some (0, τ') ∧ (∀ q, q < 112 → q ≠ 86 → q ≠ 110 → τ' q = τ q) ∧ (∀ q, 120 < q → τ' q = τ q) ∧ (∀ j, j ≠ 63 → j ≠ 64 → τ' 86 j = τ 86 j) ∧ τ' 110 = mup1 (τ 110) v (step + 1) ∧ (∀ q, 112 ≤ q → q ≤ 116 → ∀ j, ¬ (6 * v ≤ j ∧ j < 6 * v + n) → τ' q j = τ q j) ∧ (∀ j, j < n → BEq (rB τ' v j) (xPs π p lamp step made delay n (rB τ v) j)) ∧ (∀ j, j < n → 0 ≤ τ' 112 (6 * v + j) ∧ τ' 112 (6 * v + j) ≤ 80) ∧
      τ' 86 63 = xBits (xWf π p lamp step made delay (rB τ v)) n ∧ τ' 86 64 = xBits (xKf π p lamp step made delay (rB τ v)) n ∧ KRel τ' v (xK π p lamp step made delay (rB τ v) n (T, ring)).1 (xK π p lamp step made delay (rB τ v) n (T, ring)).2 ∧ (∀ u, u ≠ v → τ' 117 u = τ 117 u) ∧ (∀ j, ¬ (240 * v ≤ j ∧ j < 240 * v + 240) → τ' 118 j = τ 118 j) := by
    intro d
    induction d with
    | zero =>
      intro k fuel υ hdk hf i1 i2 i3 i4 i5 i6 i7 i8 i9 i10 i11
      obtain ⟨f, rfl⟩ : ∃ f, fuel = f + 1 := ⟨fuel - 1, by omega⟩
      have ek : k = n := by omega
      subst ek
      refine ⟨mup υ 110 v (step + 1), ?_, ?_, ?_, ?_, ?_, ?_, ?_, ?_, ?_, ?_, ?_, ?_, ?_⟩
      · unfold g_X12_passes_h12
        rw [i3 13 (by decide) (by decide), i1 91 (by decide) (by decide), mw_id (z := τ 86 13) (by omega) (by omega), q11]
        refine e_t (by omega) (e_t (Int.le_refl _) (e_t (mwR (by omega) (by decide)) (e_t (mwR (by omega) (by decide)) (e_mem ?_))))
        rw [mwN (i := v) (by omega), i1 110 (by decide) (by decide), hstep]
      · intro q q1 q2 q3
        rw [mup_off q3, i1 q q1 q2]
      · intro q q1
        rw [mup_off (by omega), i2 q q1]
      · intro j j1 j2
        rw [mup_off (by decide), i3 j j1 j2]
      · rw [mup_row, i1 110 (by decide) (by decide)]
      · intro q q1 q2 j hj
        rw [mup_off (by omega), i4 q q1 q2 j hj]
      · intro j hj
        rw [rB_c2 (τ := υ) (τ' := mup υ 110 v (step + 1)) (fun q q1 => by rw [mup_off (by omega)]) (fun j _ _ => by rw [mup_off (by decide)])]
        exact i5 j hj
      · intro j hj
        rw [mup_off (by decide)]
        exact i6 j hj
      · rw [mup_off (by decide), i7]
      · rw [mup_off (by decide), i8]
      · exact i9.congr (by rw [mup_off (by decide)]) (fun j _ _ => by rw [mup_off (by decide)])
      · intro u hu
        rw [mup_off (by decide), i10 u hu]
      · intro j hj
        rw [mup_off (by decide), i11 j hj]
    | succ d ih =>
      intro k fuel υ hdk hf i1 i2 i3 i4 i5 i6 i7 i8 i9 i10 i11
      obtain ⟨f, rfl⟩ : ∃ f, fuel = f + 1 := ⟨fuel - 1, by omega⟩
      have hk : k < n := by omega
      have hkd : 0 ≤ (k : Int) * delay ∧ (k : Int) * delay ≤ 54 := by
        rcases (by omega : k = 0 ∨ k = 1 ∨ k = 2 ∨ k = 3 ∨ k = 4 ∨ k = 5) with rfl | rfl | rfl | rfl | rfl | rfl <;> omega
      have hBk : ∀ j, j < n → BRr (π p 9) (π p 10) υ v j := fun j hj => ⟨i6 j hj, (xPs_BR hBR0 k j hj).congr (i5 j hj)⟩
      have e3 : υ 114 (6 * v + k) = xPs π p lamp step made delay k (rB τ v) k 3 := i5 k hk 3 (by decide)
      have b3 := (hBk k hk).2.2.2.1
      rw [rB_3] at b3
      have head : ∀ X, (if mw made < mw ((k : Int) * delay) then (g_X12_passes_b41 F (g_X12_passes_h12 F f) (v : Int) made (k : Int) υ) else (mob (g_X12_does F (v : Int) (k : Int) υ) (fun r104 σ105 => g_X12_passes_b41 F (g_X12_passes_h12 F f) (v : Int) made (k : Int) σ105))) = X → g_X12_passes_h12 F (f + 1) (v : Int) made (k : Int) υ = X := by
        intro X hX
        unfold g_X12_passes_h12
        rw [i3 13 (by decide) (by decide), i1 91 (by decide) (by decide), mw_id (z := τ 86 13) (by omega) (by omega), q11, i3 62 (by decide) (by decide), hd]
        exact e_t (by omega) (e_f (by rw [mw_id (by omega) (by omega), mw_id (by omega) (by omega)]; omega) hX)
      by_cases hact : xAct made delay (xPs π p lamp step made delay k (rB τ v)) k
      · -- it moves
        have hpA : ∀ j, j < (π p 11).toNat → rB υ v j 0 = xPs π p lamp step made delay k (rB τ v) j 0 ∧ rB υ v j 1 = xPs π p lamp step made delay k (rB τ v) j 1 := fun j hj => ⟨i5 j (by omega) 0 (by decide), i5 j (by omega) 1 (by decide)⟩
        have cW := xWent_c (π := π) (π' := π) (p := p) (lamp := lamp) (step := step) PEq.rfl' hpA (i5 k hk)
        have cK := xBlk_c (π := π) (π' := π) (p := p) (lamp := lamp) (step := step) PEq.rfl' hpA (i5 k hk)
        have cN := xNew_c (π := π) (π' := π) (p := p) (lamp := lamp) (step := step) PEq.rfl' hpA (i5 k hk)
        have eps : xPs π p lamp step made delay (k + 1) (rB τ v) k = xNew π p lamp step (xPs π p lamp step made delay k (rB τ v)) (xPs π p lamp step made delay k (rB τ v) k) := by
          rw [xPs_s, if_pos ⟨rfl, hact⟩]
        obtain ⟨m1, m2, m3⟩ := id i9
        obtain ⟨ω, d1, d2, d3, d4, d5, d6, d7, d8, d9, d10, d11⟩ := zr_does (F := F) (p := p) (v := v) (k := k) (n := n) (π := π) (τ := υ) (lamp := lamp) (step := step) hv hk hn hF (hR.same (fun q q1 q2 => i1 q (by omega) (by omega)) (i3 13 (by decide) (by decide))) hP h11 (by rw [i1 111 (by decide) (by decide)]; exact hlamp) (by rw [i1 110 (by decide) (by decide)]; exact hstep) hl (by omega) (by rw [i3 57 (by decide) (by decide)]; exact h57) (by rw [i3 60 (by decide) (by decide)]; exact h60) hBk (by rw [m2]; omega) (by rw [e3]; exact hact.2)
        have step2 := ih (k + 1) f ω (by omega) (by omega) (fun q q1 q2 => by rw [d2 q q1 q2, i1 q q1 q2]) (fun q q1 => by rw [d3 q q1, i2 q q1]) (fun j j1 j2 => by rw [d4 j j1 j2, i3 j j1 j2])
          (fun q q1 q2 j hj => by rw [d5 q q1 q2 j (by omega), i4 q q1 q2 j (by omega)])
          (fun j hj => by
            by_cases ej : j = k
            · subst ej
              rw [eps]
              intro g hg
              rw [d6 g hg, cN g hg]
            · rw [xPs_s, if_neg (fun q => ej q.1)]
              intro g hg
              rw [← i5 j hj g hg]
              have f567 := rB_f7 (τ := υ) (τ' := ω) (v := v) (k := j) d4 (d2 94 (by decide) (by decide)) (d2 95 (by decide) (by decide)) (d2 96 (by decide) (by decide))
              rcases (by omega : g = 0 ∨ g = 1 ∨ g = 2 ∨ g = 3 ∨ g = 4 ∨ g = 5 ∨ g = 6 ∨ g = 7 ∨ g = 8) with rfl | rfl | rfl | rfl | rfl | rfl | rfl | rfl | rfl
              · rw [rB_0, rB_0, d5 112 (by decide) (by decide) _ (by omega)]
              · rw [rB_1, rB_1, d5 112 (by decide) (by decide) _ (by omega)]
              · rw [rB_2, rB_2, d5 113 (by decide) (by decide) _ (by omega)]
              · rw [rB_3, rB_3, d5 114 (by decide) (by decide) _ (by omega)]
              · rw [rB_4, rB_4, d5 115 (by decide) (by decide) _ (by omega)]
              · exact f567.1
              · exact f567.2.1
              · exact f567.2.2
              · rw [rB_8, rB_8, d5 116 (by decide) (by decide) _ (by omega)])
          (fun j hj => by
            by_cases ej : j = k
            · subst ej
              exact d7
            · rw [d5 112 (by decide) (by decide) _ (by omega)]
              exact i6 j hj)
        by_cases hW : xWent π p lamp step (rB υ v) (rB υ v k)
        · have hW2 := cW.mp hW
          have nK : ¬ xBlk π p lamp step (rB υ v) (rB υ v k) := fun q => q.2 hW.2
          have w1 : xWf π p lamp step made delay (rB τ v) k = 1 := mb_t ⟨hact, hW2⟩
          have k0 : xKf π p lamp step made delay (rB τ v) k = 0 := mb_f (fun q => nK (cK.mpr q.2))
          have ka := d11 hW
          have hon := hW.2.1
          have p9 := hP.1
          have p10 := hP.2.1
          unfold sOn at hon
          have ec : xC π p lamp step (rB υ v k) = xPs π p lamp step made delay (k + 1) (rB τ v) k 0 := by
            rw [eps, xC_c (π' := π) PEq.rfl' (i5 k hk)]
            unfold xNew
            rw [if_pos rfl, if_pos hW2]
          have er : xR π p lamp step (rB υ v k) = xPs π p lamp step made delay (k + 1) (rB τ v) k 1 := by
            rw [eps, xR_c (π' := π) PEq.rfl' (i5 k hk)]
            unfold xNew
            rw [if_neg (by decide), if_pos rfl, if_pos hW2]
          have kok : KOK step (k : Int) (xC π p lamp step (rB υ v k)) (xR π p lamp step (rB υ v k)) := by unfold KOK; omega
          obtain ⟨τ', t1, t2⟩ := step2 (by rw [d8, if_pos hW, i7]; exact xBits_or (by omega) (fun j _ => xWf_01 j) w1) (by rw [d9, if_neg nK, i8]; exact (xBits_0 k0).symm)
            (by
              unfold xK
              rw [if_pos w1, ← ec, ← er]
              exact KRel.app i9 ka kok)
            (fun u hu => by rw [ka.1, mup1_ne hu, i10 u hu]) (fun j hj => by rw [ka.2.1 j hj, i11 j hj])
          refine ⟨τ', ?_, t2⟩
          refine head _ (e_f (by rw [mw_id (by omega) (by omega), mw_id (by omega) (by omega)]; have := hact.1; omega) (e_mob d1 ?_))
          exact t1
        · have nW2 : ¬ xWent π p lamp step (xPs π p lamp step made delay k (rB τ v)) (xPs π p lamp step made delay k (rB τ v) k) := fun q => hW (cW.mpr q)
          have w0 : xWf π p lamp step made delay (rB τ v) k = 0 := mb_f (fun q => nW2 q.2)
          obtain ⟨n7, n8⟩ := d10 hW
          have kk : (if xBlk π p lamp step (rB υ v) (rB υ v k) then mor (υ 86 64) (mshl 1 (k : Int)) else υ 86 64) = xBits (xKf π p lamp step made delay (rB τ v)) (k + 1) := by
            by_cases hKb : xBlk π p lamp step (rB υ v) (rB υ v k)
            · have k1 : xKf π p lamp step made delay (rB τ v) k = 1 := mb_t ⟨hact, cK.mp hKb⟩
              rw [if_pos hKb, i8]
              exact xBits_or (by omega) (fun j _ => xKf_01 j) k1
            · have k0 : xKf π p lamp step made delay (rB τ v) k = 0 := mb_f (fun q => hKb (cK.mpr q.2))
              rw [if_neg hKb, i8]
              exact (xBits_0 k0).symm
          obtain ⟨τ', t1, t2⟩ := step2 (by rw [d8, if_neg hW, i7]; exact (xBits_0 w0).symm) (by rw [d9]; exact kk)
            (by
              unfold xK
              rw [if_neg (by rw [w0]; decide)]
              exact KRel.congr (τ := υ) i9 (by rw [n7]) (fun j _ _ => by rw [n8]))
            (fun u hu => by rw [n7, i10 u hu]) (fun j hj => by rw [n8, i11 j hj])
          refine ⟨τ', ?_, t2⟩
          refine head _ (e_f (by rw [mw_id (by omega) (by omega), mw_id (by omega) (by omega)]; have := hact.1; omega) (e_mob d1 ?_))
          exact t1
      · -- it doesn't
        have w0 : xWf π p lamp step made delay (rB τ v) k = 0 := mb_f (fun q => hact q.1)
        have k0 : xKf π p lamp step made delay (rB τ v) k = 0 := mb_f (fun q => hact q.1)
        obtain ⟨τ', t1, t2⟩ := ih (k + 1) f υ (by omega) (by omega) i1 i2 i3 (fun q q1 q2 j hj => i4 q q1 q2 j (by omega)) (fun j hj => by rw [xPs_s, if_neg (fun q => hact q.2)]; exact i5 j hj) i6 (by rw [i7]; exact (xBits_0 w0).symm) (by rw [i8]; exact (xBits_0 k0).symm)
          (by unfold xK; rw [if_neg (by rw [w0]; decide)]; exact i9) i10 i11
        refine ⟨τ', head _ ?_, t2⟩
        by_cases c1 : made < (k : Int) * delay
        · exact e_t (by rw [mw_id (by omega) (by omega), mw_id (by omega) (by omega)]; exact c1) t1
        · refine e_f (by rw [mw_id (by omega) (by omega), mw_id (by omega) (by omega)]; exact c1) ?_
          have z : υ 114 (6 * v + k) = 0 := by
            have : ¬ 0 < xPs π p lamp step made delay k (rB τ v) k 3 := fun q => hact ⟨by omega, q⟩
            rw [← e3] at this
            omega
          have dd : g_X12_does F (v : Int) (k : Int) υ = some (0, υ) := by
            unfold g_X12_does
            refine e_le ((6 * v + k : Nat) : Int) (by omega) (e_t (mwR (by omega) (by decide)) ?_)
            rw [mwN (i := 6 * v + k) (by omega), z]
            exact e_f (by decide) rfl
          exact e_mob dd t1
  have w2 : ∀ q, q ≠ 86 → (mup (mup τ 86 63 0) 86 64 0) q = τ q := fun q hq => by rw [mup_off hq, mup_off hq]
  have w86 : ∀ j, j ≠ 63 → j ≠ 64 → (mup (mup τ 86 63 0) 86 64 0) 86 j = τ 86 j := fun j j1 j2 => by rw [mup_row, mup_row, mup1_ne j2, mup1_ne j1]
  obtain ⟨τ', t1, t2⟩ := key n 0 F (mup (mup τ 86 63 0) 86 64 0) (by omega) (by omega) (fun q _ q2 => w2 q q2) (fun q q1 => w2 q (by omega)) w86 (fun q q1 q2 j _ => by rw [w2 q (by omega)]) (fun j hj => by
      rw [rB_c (fun q q1 q2 => w2 q (by omega)) w86]
      exact fun _ _ => rfl) (fun j hj => by rw [w2 112 (by decide)]; exact (hB j hj).1) (by rw [mup_row, mup_row, mup1_ne (by decide), mup1_at rfl]; rfl) (by rw [mup_row, mup1_at rfl]; rfl)
    (hK.congr (by rw [w2 117 (by decide)]) (fun j _ _ => by rw [w2 118 (by decide)])) (fun u _ => by rw [w2 117 (by decide)]) (fun j _ => by rw [w2 118 (by decide)])
  exact ⟨τ', e_mem (e_mem t1), t2⟩
