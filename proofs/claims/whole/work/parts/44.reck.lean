/-! LAYER 2: the reference's machine runs the same code -/
theorem z_held {F : Nat} {σ : mMem} {z : Int} (h : sL z) : g_X12_held F z σ = some (clp z, σ) := by
  simp (disch := omega) only [g_X12_held, g_X12_held_b29, mwl_id]
  unfold clp
  grind
theorem z_floor {F : Nat} {σ : mMem} {a b : Int} (ha : sV a) (hb : sV b) : g_X12_floor F a b σ = some (sFl a b, σ) := by
  have h3 := tm_bound (a := a) (b := b) (by omega) (by omega)
  have hd := td_bound (b := b) ha
  simp (disch := omega) only [g_X12_floor, g_X12_floor_b55, g_X12_floor_b53, g_X12_floor_b43, g_X12_floor_b32, mlet, mwl_id, mw_id, sFl]
  generalize a.tdiv b = q at *
  generalize a.tmod b = m at *
  by_cases h0 : b = 0
  · simp [h0]
  · by_cases h1 : m = 0
    · simp [h0, h1]
    · by_cases h4 : a < 0 <;> by_cases h5 : b < 0
      · simp [h0, h1, h4, h5, show ¬ (0 ≤ a) by omega, show ¬ (0 ≤ b) by omega]
      · simp [h0, h1, h4, h5, show ¬ (0 ≤ a) by omega, show (0 ≤ b) by omega]
      · simp [h0, h1, h4, h5, show (0 ≤ a) by omega, show ¬ (0 ≤ b) by omega]
      · simp [h0, h1, h4, h5, show (0 ≤ a) by omega, show (0 ≤ b) by omega]
theorem sJ_small {op a b : Int} (ha : sV a) (hb : sV b) (h : op = 8 ∨ op = 9 ∨ op = 10 ∨ op = 11 ∨ op = 12) : sV (sJ op a b) := by
  have hb1 := mb_rng (a < b)
  have hb2 := mb_rng (b < a)
  have hb3 := mb_rng (a = b)
  rcases h with rfl | rfl | rfl | rfl | rfl <;> simp only [sJ, Int.reduceEq, ↓reduceIte] <;> omega
theorem z_two {F : Nat} {σ : mMem} {s a b : Int} (ha : sV a) (hb : sV b) (h : 31 ≤ s ∧ s ≤ 40) : g_X12_two F s a b σ = some (clp (sJ (s - 28) a b), σ) := by
  have hs : mw s = s := mw_id (by omega) (by omega)
  have hJ : sL (sJ (s - 28) a b) := sJ_bound ha hb
  have hd := fl_bound (b := b) ha
  unfold g_X12_two
  rw [hs]
  rcases (by omega : s = 31 ∨ s = 32 ∨ s = 33 ∨ s = 34 ∨ s = 35 ∨ (36 ≤ s ∧ s ≤ 40)) with rfl | rfl | rfl | rfl | rfl | h9
  · refine e_t (by omega) ?_
    exact e_mob (z_held hJ) rfl
  · refine e_f (by omega) (e_t (by omega) ?_)
    exact e_mob (z_held hJ) rfl
  · refine e_f (by omega) (e_f (by omega) (e_t (by omega) ?_))
    exact e_mob (z_held hJ) rfl
  · refine e_f (by omega) (e_f (by omega) (e_f (by omega) (e_t (by omega) ?_)))
    refine e_mob (z_floor ha hb) ?_
    exact e_mob (z_held hJ) rfl
  · refine e_f (by omega) (e_f (by omega) (e_f (by omega) (e_f (by omega) (e_t (by omega) ?_))))
    have e : sJ (35 - 28) a b = if b = 0 then 0 else a - b * sFl a b := by simp [sJ]
    rw [e] at hJ ⊢
    by_cases h0 : b = 0
    · rw [if_pos h0]
      refine e_f (by subst h0; simp) ?_
      rfl
    · rw [if_neg h0] at hJ ⊢
      refine e_t (by rw [mwl_id (by omega) (by omega), mwl_id (by omega) (by omega)]; exact h0) ?_
      refine e_mob (z_floor ha hb) ?_
      exact e_mob (z_held hJ) rfl
  · rw [clp_id (sJ_small ha hb (by omega))]
    rcases (by omega : s = 36 ∨ s = 37 ∨ s = 38 ∨ s = 39 ∨ s = 40) with rfl | rfl | rfl | rfl | rfl
    all_goals simp (disch := omega) only [g_X12_two_b124, g_X12_two_b136, g_X12_two_b148, g_X12_two_b160, g_X12_two_b172, mwl_id, Int.reduceEq, ↓reduceIte, Int.reduceSub, sJ, mb]
    all_goals grind
theorem z_and {F : Nat} {σ : mMem} {a b : Int} (ha : a = 0 ∨ a = 1) (hb : b = 0 ∨ b = 1) : g_X12_two F 41 a b σ = some (clp (sJ 13 a b), σ) := by
  have e : ∀ x y : Int, (x = 0 ∨ x = 1) → (y = 0 ∨ y = 1) → mland x y = clp (sJ 13 x y) := by
    intro x y hx hy
    rcases hx with rfl | rfl <;> rcases hy with rfl | rfl <;> decide
  unfold g_X12_two
  simp (disch := omega) only [mw_id, Int.reduceEq, ↓reduceIte]
  rw [e a b ha hb]
theorem z_or {F : Nat} {σ : mMem} {a b : Int} (ha : a = 0 ∨ a = 1) (hb : b = 0 ∨ b = 1) : g_X12_two F 42 a b σ = some (clp (sJ 14 a b), σ) := by
  have e : ∀ x y : Int, (x = 0 ∨ x = 1) → (y = 0 ∨ y = 1) → mlor x y = clp (sJ 14 x y) := by
    intro x y hx hy
    rcases hx with rfl | rfl <;> rcases hy with rfl | rfl <;> decide
  unfold g_X12_two
  simp (disch := omega) only [mw_id, Int.reduceEq, ↓reduceIte]
  rw [e a b ha hb]
/-- the reference's sorts as the class's signs -/
def trc (s v : Int) : Int := if s = 0 then 16 * v else if s ≤ 7 then 16 * (s - 1) + 1 else if s = 30 then 16 else if s = 43 then 2 else if s = 44 then 15 else s - 28
def srt (s v : Int) : Prop := (s = 0 ∧ 0 ≤ v ∧ v ≤ 9999) ∨ (1 ≤ s ∧ s ≤ 7) ∨ (30 ≤ s ∧ s ≤ 44)
theorem k_step {F f i : Nat} {w x2 x3 : Int} {code kn : Nat → Int} {st : List Int} {bs bs' : List Bool} {σ : mMem} (hb : σ 86 13 = 0 ∨ σ 86 13 = 1) (hw : w = 0 ∨ w = 1) (he : 0 ≤ x3 ∧ x3 < 1600 * σ 86 13 + σ 99 (2 * σ 86 13 + w).toNat ∧ 1600 * σ 86 13 + σ 99 (2 * σ 86 13 + w).toNat ≤ 3200) (h2 : x2 = (st.length : Int))
    (ht : tyS st bs) (ho : okS bs (code i) = some bs') (hh : hol (σ 119) st) (hs : srt (σ 100 x3.toNat) (σ 101 x3.toNat)) (hc : trc (σ 100 x3.toNat) (σ 101 x3.toNat) = code i) {m : Int} (hm : code i % 16 = 1 → code i / 16 < m) (hk : ∀ j : Nat, (j : Int) < m → σ 120 (j + 1) = kn j) (hkv : ∀ j : Nat, (j : Int) < m → sV (kn j)) :
    ∃ σ' : mMem, g_X12_reckons_h25 F (f + 1) w x2 x3 σ = g_X12_reckons_h25 F f w ((sSt kn (code i) st).length : Int) (x3 + 1) σ' ∧ hol (σ' 119) (sSt kn (code i) st) ∧ ∀ o, o ≠ 119 → σ' o = σ o := by
  have hlen := tyS_len ht
  have hc0 : 0 ≤ code i ∧ code i ≤ 160000 ∧ bs.length ≤ 70 := by
    unfold okS at ho
    split at ho
    · cases ho
    · omega
  generalize hcc : code i = c at *
  have m2 : mw x2 = x2 := mw_id (by omega) (by omega)
  have m3 : mw x3 = x3 := mw_id (by omega) (by omega)
  have mi : mw (2 * σ 86 13 + w) = 2 * σ 86 13 + w := mw_id (by omega) (by omega)
  have fin : ∀ (k : Nat) (z : Int) (rest : List Int), hol (σ 119) rest → rest.length = k → hol ((mup σ 119 k z) 119) (z :: rest) ∧ ∀ o, o ≠ 119 → (mup σ 119 k z) o = σ o := by
    intro k z rest hr hk
    rw [mup_row]
    refine ⟨⟨?_, hol_up (by omega) hr⟩, fun o h => mup_off h⟩
    rw [hk]
    simp [mup1]
  have go : ∀ (y y' : Int) (t : List Int) (v : Int), y' = (t.length : Int) → y = y' + 1 → g_X12_reckons_h25 F f w y (x3 + 1) (mup σ 119 y'.toNat v) = g_X12_reckons_h25 F f w ((v :: t).length : Int) (x3 + 1) (mup σ 119 t.length v) := by
    intro y y' t v hy hy2
    subst hy
    subst hy2
    simp
  unfold okS at ho
  rw [if_neg (by omega)] at ho
  have hd : g_X12_reckons_h25 F (f + 1) w x2 x3 σ = (fun y102 => if mw 30 < mw y102 then (if ¬ mw y102 = mw 43 then (if ¬ mw y102 = mw 44 then (if 0 ≤ mw ((x2 + (-1)) - 1) ∧ mw ((x2 + (-1)) - 1) < (500 : Int) then if 0 ≤ mw (x2 + (-1)) ∧ mw (x2 + (-1)) < (500 : Int) then mob (g_X12_two F y102 (σ 119 (mw ((x2 + (-1)) - 1)).toNat) (σ 119 (mw (x2 + (-1))).toNat) σ) (fun r103 σ104 => if 0 ≤ mw ((x2 + (-1)) - 1) ∧ mw ((x2 + (-1)) - 1) < (500 : Int) then mlm (mup σ104 119 (mw ((x2 + (-1)) - 1)).toNat r103) (fun σ105 => g_X12_reckons_b221 F (g_X12_reckons_h25 F f) w (x2 + (-1)) x3 σ105) else none) else none else none) else (if 0 ≤ mw ((x2 + (-2)) - 1) ∧ mw ((x2 + (-2)) - 1) < (500 : Int) then if ¬ mwl (σ 119 (mw ((x2 + (-2)) - 1)).toNat) = mwl 1 then (if 0 ≤ mw ((x2 + (-2)) + 1) ∧ mw ((x2 + (-2)) + 1) < (500 : Int) then g_X12_reckons_b187 F (g_X12_reckons_h25 F f) w (x2 + (-2)) x3 ((x2 + (-2)) - 1) (σ 119 (mw ((x2 + (-2)) + 1)).toNat) σ else none) else (if 0 ≤ mw (x2 + (-2)) ∧ mw (x2 + (-2)) < (500 : Int) then g_X12_reckons_b187 F (g_X12_reckons_h25 F f) w (x2 + (-2)) x3 ((x2 + (-2)) - 1) (σ 119 (mw (x2 + (-2))).toNat) σ else none) else none)) else (if 0 ≤ mw (x2 - 1) ∧ mw (x2 - 1) < (500 : Int) then if 0 ≤ mw (x2 - 1) ∧ mw (x2 - 1) < (500 : Int) then mlm (mup σ 119 (mw (x2 - 1)).toNat (1 - (σ 119 (mw (x2 - 1)).toNat))) (fun σ106 => g_X12_reckons_b221 F (g_X12_reckons_h25 F f) w x2 x3 σ106) else none else none)) else (if ¬ mw y102 = 0 then (if ¬ mw y102 = mw 30 then (if 0 ≤ mw y102 ∧ mw y102 < (12 : Int) then g_X12_reckons_b105 F (g_X12_reckons_h25 F f) w x2 x3 x2 (mw (σ 120 (mw y102).toNat)) σ else none) else (g_X12_reckons_b105 F (g_X12_reckons_h25 F f) w x2 x3 x2 1 σ)) else (if 0 ≤ mw x3 ∧ mw x3 < (3200 : Int) then g_X12_reckons_b105 F (g_X12_reckons_h25 F f) w x2 x3 x2 (mw (σ 101 (mw x3).toNat)) σ else none))) (σ 100 x3.toNat) := by
    conv => lhs; unfold g_X12_reckons_h25
    refine e_t (by rw [mi]; omega) ?_
    refine e_f (by rw [mi, m3, mw_id (by omega) (by omega)]; omega) ?_
    refine e_t (by rw [m3]; omega) ?_
    refine e_le (σ 100 x3.toNat) (by rw [m3]) ?_
    rfl
  rw [hd]
  generalize hsv : σ 100 x3.toNat = s at *
  have ms : mw s = s := mw_id (by unfold srt at hs; omega) (by unfold srt at hs; omega)
  unfold srt at hs
  -- pushes
  have push : ∀ (v z : Int), z = v → sV v → sSt kn c st = clp v :: st → ∃ σ' : mMem, g_X12_reckons_b105 F (g_X12_reckons_h25 F f) w x2 x3 x2 z σ = g_X12_reckons_h25 F f w ((sSt kn c st).length : Int) (x3 + 1) σ' ∧ hol (σ' 119) (sSt kn c st) ∧ ∀ o, o ≠ 119 → σ' o = σ o := by
    intro v z hz hv es
    subst hz
    rw [es, clp_id hv]
    refine ⟨mup σ 119 st.length z, ?_, fin _ _ st hh rfl⟩
    unfold g_X12_reckons_b105
    refine e_t (by rw [m2]; omega) ?_
    refine e_mem ?_
    unfold g_X12_reckons_b221
    rw [m2]
    exact go _ _ _ _ h2 rfl
  dsimp only
  by_cases a0 : s = 0
  · rw [if_neg (by rw [ms, mw_id (by omega) (by omega)]; omega), if_neg (by rw [ms]; omega), if_pos (by rw [m3]; omega), m3]
    have hv : 0 ≤ σ 101 x3.toNat ∧ σ 101 x3.toNat ≤ 9999 := by omega
    have e : c = 16 * σ 101 x3.toNat := by rw [← hc]; unfold trc; rw [if_pos a0]
    refine push (σ 101 x3.toNat) _ (mw_id (by omega) (by omega)) (by omega) ?_
    unfold sSt
    rw [if_pos (by omega), show c / 16 = σ 101 x3.toNat by omega]
  by_cases a7 : s ≤ 7
  · rw [if_neg (by rw [ms, mw_id (by omega) (by omega)]; omega), if_pos (by rw [ms]; omega), if_pos (by rw [ms, mw_id (by omega) (by omega)]; omega), if_pos (by rw [ms]; omega), ms]
    have e : c = 16 * (s - 1) + 1 := by rw [← hc]; unfold trc; rw [if_neg a0, if_pos a7]
    have hm2 := hm (by omega)
    have ek : σ 120 s.toNat = kn (s - 1).toNat := by
      rw [← hk (s - 1).toNat (by omega)]
      congr 1
      omega
    have kv := hkv (s - 1).toNat (by omega)
    refine push (kn (s - 1).toNat) _ (by rw [ek]; exact mw_sV kv) kv ?_
    unfold sSt
    rw [if_neg (by omega), if_pos (by omega), show c / 16 = s - 1 by omega]
  by_cases a30 : s = 30
  · rw [if_neg (by rw [ms, mw_id (by omega) (by omega)]; omega), if_pos (by rw [ms]; omega), if_neg (by rw [ms, mw_id (by omega) (by omega)]; omega)]
    have e : c = 16 := by rw [← hc]; unfold trc; rw [if_neg a0, if_neg a7, if_pos a30]
    refine push 1 _ rfl (by omega) ?_
    unfold sSt
    rw [if_pos (by omega), show c / 16 = 1 by omega]
  rw [if_pos (by rw [ms, mw_id (by omega) (by omega)]; omega)]
  by_cases a43 : s = 43
  · rw [if_neg (by rw [ms, mw_id (by omega) (by omega)]; omega)]
    have e : c = 2 := by rw [← hc]; unfold trc; rw [if_neg a0, if_neg a7, if_neg a30, if_pos a43]
    subst e
    simp only [show (2 : Int) % 16 = 2 by decide, Int.reduceEq, ↓reduceIte] at ho
    match st, bs, ht, ho, hh, hlen with
    | a :: t, true :: u, ht, ho, hh, hlen =>
      have h4b : x2 = (t.length : Int) + 1 := by rw [h2]; simp
      have hl2 : t.length ≤ 70 := by simp at hlen hc0; omega
      have m1 : mw (x2 - 1) = x2 - 1 := mw_id (by omega) (by omega)
      have hw0 : σ 119 (x2 - 1).toNat = a := by
        rw [show (x2 - 1).toNat = t.length by omega]
        exact hh.1
      have es : sSt kn 2 (a :: t) = mb (a = 0) :: t := by simp [sSt]
      rw [es]
      refine ⟨mup σ 119 t.length (mb (a = 0)), ?_, fin _ _ t hh.2 rfl⟩
      rw [m1]
      refine e_t (by omega) (e_t (by omega) (e_mem ?_))
      unfold g_X12_reckons_b221
      rw [hw0]
      have e1 : 1 - a = mb (a = 0) := by
        rcases ht.2.1 rfl with rfl | rfl <;> decide
      rw [e1]
      exact go _ _ _ _ (by omega) (by omega)
    | a :: t, false :: u, ht, ho, hh, hlen => cases ho
    | [], [], ht, ho, hh, hlen => cases ho
  rw [if_pos (by rw [ms, mw_id (by omega) (by omega)]; omega)]
  by_cases a44 : s = 44
  · rw [if_neg (by rw [ms, mw_id (by omega) (by omega)]; omega)]
    have e : c = 15 := by rw [← hc]; unfold trc; rw [if_neg a0, if_neg a7, if_neg a30, if_neg a43, if_pos a44]
    subst e
    simp only [show (15 : Int) % 16 = 15 by decide, Int.reduceEq, ↓reduceIte] at ho
    match st, bs, ht, ho, hh, hlen with
    | z :: y :: x :: t, _ :: _ :: true :: u, ht, ho, hh, hlen =>
      have h4b : x2 = (t.length : Int) + 3 := by rw [h2]; simp; omega
      have hl2 : t.length ≤ 67 := by simp at hlen hc0; omega
      have m1 : mw (x2 + (-2) - 1) = x2 + (-2) - 1 := mw_id (by omega) (by omega)
      have m4 : mw (x2 + (-2) + 1) = x2 + (-2) + 1 := mw_id (by omega) (by omega)
      have m5 : mw (x2 + (-2)) = x2 + (-2) := mw_id (by omega) (by omega)
      have hwx : σ 119 (x2 + (-2) - 1).toNat = x := by
        rw [show (x2 + (-2) - 1).toNat = t.length by omega]
        exact hh.2.2.1
      have hwy : σ 119 (x2 + (-2)).toNat = y := by
        rw [show (x2 + (-2)).toNat = t.length + 1 by omega]
        have := hh.2.1
        simpa using this
      have hwz : σ 119 (x2 + (-2) + 1).toNat = z := by
        rw [show (x2 + (-2) + 1).toNat = t.length + 2 by omega]
        have := hh.1
        simpa using this
      have hx01 : x = 0 ∨ x = 1 := ht.2.2.2.2.2.1 rfl
      have es : sSt kn 15 (z :: y :: x :: t) = (if x = 0 then z else y) :: t := by simp [sSt]
      rw [es]
      refine ⟨mup σ 119 t.length (if x = 0 then z else y), ?_, fin _ _ t hh.2.2.2 rfl⟩
      rw [m1, m4, m5, hwx, hwy, hwz]
      refine e_t (by omega) ?_
      unfold g_X12_reckons_b187 g_X12_reckons_b221
      rcases hx01 with rfl | rfl
      · refine e_t (by decide) (e_t (by omega) ?_)
        rw [if_pos rfl]
        refine e_t (by omega) (e_mem ?_)
        rw [m1]
        exact go _ _ _ _ (by omega) (by omega)
      · refine e_f (by decide) (e_t (by omega) ?_)
        rw [show (if (1 : Int) = 0 then z else y) = y from if_neg (by decide)]
        refine e_t (by omega) (e_mem ?_)
        rw [m1]
        exact go _ _ _ _ (by omega) (by omega)
    | z :: y :: x :: t, _ :: _ :: false :: u, ht, ho, hh, hlen => cases ho
    | [z, y], [_, _], ht, ho, hh, hlen => cases ho
    | [z], [_], ht, ho, hh, hlen => cases ho
    | [], [], ht, ho, hh, hlen => cases ho
  rw [if_pos (by rw [ms, mw_id (by omega) (by omega)]; omega)]
  have e : c = s - 28 := by rw [← hc]; unfold trc; rw [if_neg a0, if_neg a7, if_neg a30, if_neg a43, if_neg a44]
  have ec : c % 16 = s - 28 := by omega
  rw [if_neg (by omega), if_neg (by omega), if_neg (by omega), if_neg (by omega)] at ho
  have key : ∃ (b a : Int) (t : List Int) (u : List Bool) (b1 b2 : Bool), st = b :: a :: t ∧ bs = b1 :: b2 :: u ∧ ((c % 16 = 13 ∨ c % 16 = 14) → b1 = true ∧ b2 = true) := by
    match st, bs, ht, ho with
    | b :: a :: t, true :: true :: u, ht, ho => exact ⟨b, a, t, u, true, true, rfl, rfl, fun _ => ⟨rfl, rfl⟩⟩
    | b :: a :: t, true :: false :: u, ht, ho => exact ⟨b, a, t, u, true, false, rfl, rfl, fun q => by rw [if_pos q] at ho; cases ho⟩
    | b :: a :: t, false :: b2 :: u, ht, ho => exact ⟨b, a, t, u, false, b2, rfl, rfl, fun q => by rw [if_pos q] at ho; cases ho⟩
    | [b], [b1], ht, ho => cases b1 <;> simp at ho
    | [], [], ht, ho => simp at ho
  obtain ⟨b, a, t, u, b1, b2, rfl, rfl, hbb⟩ := key
  have h4b : x2 = (t.length : Int) + 2 := by rw [h2]; simp; omega
  have hl2 : t.length ≤ 68 := by simp at hc0 hlen; omega
  have m1 : mw (x2 + (-1) - 1) = x2 + (-1) - 1 := mw_id (by omega) (by omega)
  have m5 : mw (x2 + (-1)) = x2 + (-1) := mw_id (by omega) (by omega)
  have hwa : σ 119 (x2 + (-1) - 1).toNat = a := by
    rw [show (x2 + (-1) - 1).toNat = t.length by omega]
    exact hh.2.1
  have hwb : σ 119 (x2 + (-1)).toNat = b := by
    rw [show (x2 + (-1)).toNat = t.length + 1 by omega]
    have := hh.1
    simpa using this
  have hva := ht.2.2.1
  have hvb := ht.1
  have es : sSt kn c (b :: a :: t) = clp (sJ (s - 28) a b) :: t := by
    unfold sSt
    rw [if_neg (by omega), if_neg (by omega), if_neg (by omega), if_neg (by omega), ec]
  rw [es]
  refine ⟨mup σ 119 t.length (clp (sJ (s - 28) a b)), ?_, fin _ _ t hh.2.2 rfl⟩
  rw [m1, m5, hwa, hwb]
  have h2t : g_X12_two F s a b σ = some (clp (sJ (s - 28) a b), σ) := by
    by_cases a41 : s ≤ 40
    · exact z_two hva hvb (by omega)
    · obtain ⟨q1, q2⟩ := hbb (by omega)
      have hb01 := ht.2.1 q1
      have ha01 := ht.2.2.2.1 q2
      rcases (by omega : s = 41 ∨ s = 42) with rfl | rfl
      · exact z_and ha01 hb01
      · exact z_or ha01 hb01
  refine e_t (by omega) (e_t (by omega) (e_mob h2t (e_t (by omega) (e_mem ?_))))
  unfold g_X12_reckons_b221
  exact go _ _ _ _ (by omega) (by omega)
theorem k_loop {F : Nat} {w m : Int} {code kn : Nat → Int} {b : Bool} (hw : w = 0 ∨ w = 1) (hkv : ∀ j : Nat, (j : Int) < m → sV (kn j)) (n : Nat) : ∀ (i fuel : Nat) (st : List Int) (bs : List Bool) (σ : mMem) (x2 x3 : Int), n < fuel → (σ 86 13 = 0 ∨ σ 86 13 = 1) → σ 99 (2 * σ 86 13 + w).toNat = (i : Int) + n → (i : Int) + n ≤ 1600 → x2 = (st.length : Int) → x3 = 1600 * σ 86 13 + i → okR code n i bs = some [b] → tyS st bs → hol (σ 119) st →
    (∀ j : Nat, i ≤ j → j < i + n → srt (σ 100 (1600 * σ 86 13 + j).toNat) (σ 101 (1600 * σ 86 13 + j).toNat) ∧ trc (σ 100 (1600 * σ 86 13 + j).toNat) (σ 101 (1600 * σ 86 13 + j).toNat) = code j) → (∀ j, i ≤ j → j < i + n → code j % 16 = 1 → code j / 16 < m) → (∀ j : Nat, (j : Int) < m → σ 120 (j + 1) = kn j) →
    ∃ σ', g_X12_reckons_h25 F fuel w x2 x3 σ = some ((sRun code kn n i st).headD 0, σ') := by
  induction n with
  | zero =>
    intro i fuel st bs σ x2 x3 hf hb h9 h9b h2 h3 ho ht hh hc hm hk
    obtain ⟨f, rfl⟩ : ∃ f, fuel = f + 1 := ⟨fuel - 1, by omega⟩
    cases ho
    match st, ht with
    | [a], ht =>
      refine ⟨σ, ?_⟩
      have hw0 : σ 119 0 = a := hh.1
      have mi : mw (2 * σ 86 13 + w) = 2 * σ 86 13 + w := mw_id (by omega) (by omega)
      unfold g_X12_reckons_h25
      refine e_t (by rw [mi]; omega) ?_
      refine e_t (by rw [mi, h9, mw_id (by omega) (by omega), mw_id (by omega) (by omega)]; omega) ?_
      refine e_t (by decide) ?_
      rw [mw_0]
      simp only [Int.toNat_zero, hw0]
      rfl
  | succ n ih =>
    intro i fuel st bs σ x2 x3 hf hb h9 h9b h2 h3 ho ht hh hc hm hk
    obtain ⟨f, rfl⟩ : ∃ f, fuel = f + 1 := ⟨fuel - 1, by omega⟩
    unfold okR at ho
    cases h1 : okS bs (code i) with
    | none => rw [h1] at ho; cases ho
    | some b1 =>
      rw [h1] at ho
      have hci := hc i (Nat.le_refl i) (by omega)
      rw [← h3] at hci
      obtain ⟨σ1, e1, hh1, hfr⟩ := k_step (F := F) (f := f) (i := i) hb hw (by omega) h2 ht h1 hh hci.1 hci.2 (hm i (Nat.le_refl i) (by omega)) hk hkv
      rw [e1]
      have f86 : σ1 86 = σ 86 := hfr 86 (by decide)
      have f99 : σ1 99 = σ 99 := hfr 99 (by decide)
      have f100 : σ1 100 = σ 100 := hfr 100 (by decide)
      have f101 : σ1 101 = σ 101 := hfr 101 (by decide)
      have f120 : σ1 120 = σ 120 := hfr 120 (by decide)
      exact ih (i + 1) f _ b1 σ1 _ _ (by omega) (by rw [f86]; exact hb) (by rw [f86, f99]; omega) (by omega) rfl (by rw [f86]; omega) ho (okS_ty ht h1) hh1 (fun j j1 j2 => by rw [f86, f100, f101]; exact hc j (by omega) (by omega)) (fun j j1 j2 j3 => hm j (by omega) (by omega) j3) (fun j hj => by rw [f120]; exact hk j hj)
/-- what the reference's machine works out -/
theorem z_reckons {F n i : Nat} {w m : Int} {σ : mMem} {code kn : Nat → Int} {b : Bool} (hF : 2000 ≤ F) (hw : w = 0 ∨ w = 1) (hb : σ 86 13 = 0 ∨ σ 86 13 = 1) (h98 : σ 98 (2 * σ 86 13 + w).toNat = (i : Int)) (h99 : σ 99 (2 * σ 86 13 + w).toNat = (i : Int) + n) (hn : i + n ≤ 1600) (ho : okR code n i [] = some [b])
    (hc : ∀ j : Nat, i ≤ j → j < i + n → srt (σ 100 (1600 * σ 86 13 + j).toNat) (σ 101 (1600 * σ 86 13 + j).toNat) ∧ trc (σ 100 (1600 * σ 86 13 + j).toNat) (σ 101 (1600 * σ 86 13 + j).toNat) = code j) (hm : ∀ j, i ≤ j → j < i + n → code j % 16 = 1 → code j / 16 < m) (hk : ∀ j : Nat, (j : Int) < m → σ 120 (j + 1) = kn j) (hkv : ∀ j : Nat, (j : Int) < m → sV (kn j)) :
    ∃ σ', g_X12_reckons F w σ = some ((sRun code kn n i []).headD 0, σ') := by
  have mi : mw (2 * σ 86 13 + w) = 2 * σ 86 13 + w := mw_id (by omega) (by omega)
  unfold g_X12_reckons
  rw [mi, h98, if_pos (by omega)]
  exact k_loop hw hkv n i F [] [] σ 0 (1600 * σ 86 13 + i) (by omega) hb h99 (by omega) rfl rfl ho trivial trivial hc hm hk
