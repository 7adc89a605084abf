/-! LAYER 2: kitchen, settings and greys -/
def FPc (σ' σ : mMem) (p : Nat) : Prop := ∀ q, q ≠ 14 → q ≠ 19 → ¬ (p ≤ q ∧ q ≤ p + 4) → σ' q = σ q
def FPr (τ' τ : mMem) : Prop := (∀ q, (q < 86 ∨ q = 87 ∨ 109 ≤ q) → τ' q = τ q) ∧ ∀ j, (j < 3 ∨ j = 10 ∨ j = 11 ∨ j = 13 ∨ j = 30 ∨ 45 ≤ j) → τ' 86 j = τ 86 j
theorem FN.pc {σ' σ : mMem} {p : Nat} (h : FN σ' σ) : FPc σ' σ p := fun q q1 _ _ => h.1 q q1
theorem FPc.tr {a b c : mMem} {p : Nat} (h : FPc a b p) (g : FPc b c p) : FPc a c p := fun q q1 q2 q3 => (h q q1 q2 q3).trans (g q q1 q2 q3)
theorem FPc.up {σ' σ : mMem} {p o j : Nat} {z : Int} (h : FPc σ' σ p) (ho : p ≤ o ∧ o ≤ p + 4) : FPc (mup σ' o j z) σ p := fun q q1 q2 q3 => by rw [mup_off (by omega)]; exact h q q1 q2 q3
theorem FR.pr {τ' τ : mMem} (h : FR τ' τ) : FPr τ' τ := ⟨fun q hq => h.1 q (by omega), fun j hj => h.2 j (by omega)⟩
theorem FPr.tr {a b c : mMem} (h : FPr a b) (g : FPr b c) : FPr a c := ⟨fun q hq => (h.1 q hq).trans (g.1 q hq), fun j hj => (h.2 j hj).trans (g.2 j hj)⟩
theorem FPr.up {τ' τ : mMem} {o j : Nat} {z : Int} (h : FPr τ' τ) (ho : 88 ≤ o ∧ o ≤ 108) : FPr (mup τ' o j z) τ := ⟨fun q hq => by rw [mup_off (by omega)]; exact h.1 q hq, fun i hi => by rw [mup_off (by omega)]; exact h.2 i hi⟩
/-- how much of a row a bank has; the other bank is as it was -/
def bw (q : Nat) : Nat := if q = 90 then 81 else if q = 97 then 3 else if q = 98 ∨ q = 99 then 2 else if q = 100 ∨ q = 101 then 1600 else if q = 88 ∨ q = 89 ∨ q = 91 then 1 else 6
def BF (τ' τ : mMem) (i : Nat) : Prop := ∀ q j, 88 ≤ q → q ≤ 102 → bw q * (1 - i) ≤ j → j < bw q * (1 - i) + bw q → τ' q j = τ q j
theorem BF.tr {a b c : mMem} {i : Nat} (h : BF a b i) (g : BF b c i) : BF a c i := fun q j q1 q2 j1 j2 => (h q j q1 q2 j1 j2).trans (g q j q1 q2 j1 j2)
theorem BF.of {τ' τ : mMem} {i : Nat} (h : ∀ q, 88 ≤ q → q ≤ 102 → τ' q = τ q) : BF τ' τ i := fun q j q1 q2 _ _ => by rw [h q q1 q2]
theorem FR.bf {τ' τ : mMem} {i : Nat} (h : FR τ' τ) : BF τ' τ i := BF.of (fun q q1 _ => h.1 q (by omega))
theorem BF.up {τ' τ : mMem} {i o x : Nat} {z : Int} (h : BF τ' τ i) (hi : i = 0 ∨ i = 1) (hx : x < bw o) : BF (mup τ' o (bw o * i + x) z) τ i := by
  intro q j q1 q2 j1 j2
  by_cases e : q = o
  · subst e
    rw [mup_ne (by rcases hi with rfl | rfl <;> omega)]
    exact h q j q1 q2 j1 j2
  · rw [mup_off e]
    exact h q j q1 q2 j1 j2
/-- power, lamp, cat: which of the three -/
theorem j_set {F l p w : Nat} {σ : mMem} {b : Nat → Int} {hi : Int} (hF : 2000 ≤ F) (hb : ∀ j, j < l → 0 ≤ b j ∧ b j ≤ 255) (hp : p = 3 ∨ p = 8) (h13 : σ 13 2 = (p : Int)) (hw : (w = 0 ∧ hi = 999) ∨ (w = 1 ∧ hi = 9) ∨ (w = 2 ∧ hi = 100)) {s : Nat} (c : CTk σ b l s) (hs : s < l) : ∃ σ', g_X6_readSetting F (12 + (w : Int)) σ = some (0, σ') ∧ FPc σ' σ p ∧ StC σ' b l ∧ ∀ τ i, Mt σ τ b l → PlK σ τ p i → ∃ τ', g_X12_telling F (w : Int) hi τ = some (0, τ') ∧ (FPr τ' τ ∧ BF τ' τ i) ∧ Mt σ' τ' b l ∧ ((∃ s, CTk σ' b l s) → PlK σ' τ' p i) := by
  obtain ⟨σ1, a1, a2, a3, a4⟩ := j_adv (F := F) hF hb c hs
  obtain ⟨r, σ2, b1, b2, b3, b4, b5, b6⟩ := j_num (F := F) (x := 0) (y := hi) hF hb (by decide) (by omega) a3
  obtain ⟨σ3, e3⟩ : ∃ y, y = mup σ2 p (12 + w) r := ⟨_, rfl⟩
  have o3 : ∀ q, q ≠ p → σ3 q = σ2 q := fun q hq => by rw [e3, mup_off hq]
  have keep : ∀ q, q = 1 ∨ (14 ≤ q ∧ q ≤ 18) → σ3 q = σ2 q := fun q hq => o3 q (by omega)
  refine ⟨σ3, ?_, ?_, b3.cg keep, fun τ i hm hk => ?_⟩
  · have r13 : σ1 13 2 = (p : Int) := by rw [a2.1 13 (by decide)]; exact h13
    have fin : mob (g_X8_next F σ) (fun r9 σ10 => if σ10 13 2 = 3 ∨ σ10 13 2 = 8 then mob (g_X8_takeNumber F 0 hi σ10) (fun r12 σ13 => mlm (mup σ13 (σ10 13 2).toNat (12 + w) r12) (fun σ14 => g_X6_readSetting_b108 F σ14)) else none) = some (0, σ3) := by
      refine e_mob a1 ?_
      rw [r13, show ((p : Int)).toNat = p by omega]
      refine e_t (by omega) (e_mob b1 (e_mem ?_))
      rw [← e3]
      rfl
    unfold g_X6_readSetting
    rcases hw with ⟨rfl, rfl⟩ | ⟨rfl, rfl⟩ | ⟨rfl, rfl⟩
    · exact e_f (by decide) fin
    · exact e_t (by decide) (e_f (by decide) fin)
    · exact e_t (by decide) (e_t (by decide) (e_f (by decide) fin))
  · rw [e3]
    exact ((b2.tr a2).pc).up (by omega)
  · obtain ⟨τ1, y1, y2, y3, y4⟩ := r_cnt (F := F) c a4 τ hm
    obtain ⟨r', τ2, z1, z2, z3, z4⟩ := b6 τ1 hi y3 (fun _ => rfl)
    have ei := hk.1.2.1
    have k2 : PlK σ2 τ2 p i := hk.fn (b2.tr a2) (z2.tr y2)
    have head : ∀ X, (if ¬ mw (τ2 86 8) = 0 then (g_X12_telling_b37 F τ2) else (if 0 ≤ mw ((3 * (τ2 86 30)) + (w : Int)) ∧ mw ((3 * (τ2 86 30)) + (w : Int)) < (6 : Int) then mlm (mup τ2 97 (mw ((3 * (τ2 86 30)) + (w : Int))).toNat r') (fun σ5 => g_X12_telling_b37 F σ5) else none)) = X → g_X12_telling F (w : Int) hi τ = X := by
      intro X hX
      unfold g_X12_telling
      exact e_mob y1 (e_t (by decide) (e_mob z1 hX))
    have i30 : 3 * τ2 86 30 + (w : Int) = ((3 * i + w : Nat) : Int) := by rw [k2.1.2.2.2]; omega
    by_cases c8 : τ2 86 8 = 0
    · obtain ⟨q1, q2, -, -⟩ := z4 c8
      obtain ⟨τ3, e4⟩ : ∃ y, y = mup τ2 97 (3 * i + w) r := ⟨_, rfl⟩
      have t3 : ∀ q, q ≠ 97 → τ3 q = τ2 q := fun q hq => by rw [e4, mup_off hq]
      refine ⟨τ3, head _ ?_, ⟨by rw [e4]; exact ((z2.tr y2).pr).up (by decide), by rw [e4]; exact BF.up (o := 97) (x := w) (z2.tr y2).bf ei (by rcases hw with ⟨rfl, -⟩ | ⟨rfl, -⟩ | ⟨rfl, -⟩ <;> decide)⟩, z3.cg keep (t3 87 (by decide)) (fun j _ => by rw [t3 86 (by decide)]), fun _ => ?_⟩
      · rw [c8, i30, mwN (i := 3 * i + w) (by omega), q1, ← e4]
        exact e_f (fun e => e rfl) (e_t (mwR (by omega) (by decide)) (e_mem rfl))
      · obtain ⟨w1, w2, w3, w4, w5⟩ := k2
        have ne : ∀ j, j ≠ 12 + w → σ3 p j = σ2 p j := fun j hj => by rw [e3, mup_ne (by omega)]
        have nt : ∀ j, j ≠ 3 * i + w → τ3 97 j = τ2 97 j := fun j hj => by rw [e4, mup_ne (by omega)]
        have v3 : σ3 p (12 + w) = r := by rw [e3, mup_at rfl rfl]
        have v4 : τ3 97 (3 * i + w) = r := by rw [e4, mup_at rfl rfl]
        refine ⟨⟨w1.1, w1.2.1, by rw [o3 13 (by omega)]; exact w1.2.2.1, by rw [t3 86 (by decide)]; exact w1.2.2.2⟩, ?_, ?_, ?_, ?_⟩
        · unfold FlK at *
          rw [ne 9 (by omega), ne 10 (by omega), o3 (p + 1) (by omega), t3 88 (by decide), t3 89 (by decide), t3 90 (by decide)]
          exact w2
        · unfold BsK BxK at *
          rw [ne 11 (by omega), ne 9 (by omega), ne 10 (by omega), o3 (p + 2) (by omega), o3 (p + 3) (by omega), t3 91 (by decide), t3 92 (by decide), t3 93 (by decide), t3 94 (by decide), t3 95 (by decide), t3 96 (by decide), t3 102 (by decide)]
          exact w3
        · obtain ⟨x1, x2, x3⟩ := w4
          rcases hw with ⟨rfl, rfl⟩ | ⟨rfl, rfl⟩ | ⟨rfl, rfl⟩
          · have v3' : σ3 p 12 = r := v3
            have v4' : τ3 97 (3 * i) = r := v4
            refine ⟨?_, ?_, ?_⟩
            · rw [v3', v4']; exact ⟨rfl, q2⟩
            · rw [ne 13 (by omega), nt (3 * i + 1) (by omega)]; exact x2
            · rw [ne 14 (by omega), nt (3 * i + 2) (by omega)]; exact x3
          · have v3' : σ3 p 13 = r := v3
            refine ⟨?_, ?_, ?_⟩
            · rw [ne 12 (by omega), nt (3 * i) (by omega)]; exact x1
            · rw [v3', v4]; exact ⟨rfl, q2⟩
            · rw [ne 14 (by omega), nt (3 * i + 2) (by omega)]; exact x3
          · have v3' : σ3 p 14 = r := v3
            refine ⟨?_, ?_, ?_⟩
            · rw [ne 12 (by omega), nt (3 * i) (by omega)]; exact x1
            · rw [ne 13 (by omega), nt (3 * i + 1) (by omega)]; exact x2
            · rw [v3', v4]; exact ⟨rfl, q2⟩
        · unfold CdK FoK at *
          rw [ne 4 (by omega), ne 5 (by omega), ne (5 + 1) (by omega), ne 7 (by omega), ne (7 + 1) (by omega), o3 (p + 4) (by omega), t3 86 (by decide), t3 98 (by decide), t3 99 (by decide), t3 100 (by decide), t3 101 (by decide)]
          exact w5
    · refine ⟨τ2, head _ ?_, ⟨(z2.tr y2).pr, (z2.tr y2).bf⟩, z3.cg keep rfl (fun _ _ => rfl), fun lv => ?_⟩
      · have rg8 : 1 ≤ τ2 86 8 ∧ τ2 86 8 ≤ 6 := by
          rcases z3.2 with ⟨s', c', -, e⟩ | ⟨fk, fp, d, r⟩
          · exact absurd e c8
          · have := d.1
            rcases r with ⟨r1, -⟩ | ⟨r1, -⟩
            · rw [r1]; omega
            · exact absurd r1 c8
        exact e_t (by rw [mw_id (by omega) (by omega)]; exact c8) rfl
      · obtain ⟨s', c'⟩ := CTk.of keep lv
        exact absurd (z3.live c').2 c8
