/-! LAYER 2: the class's machine runs a code -/
theorem mw_sV {z : Int} (h : sV z) : mw z = z := mw_id (by omega) (by omega)
theorem z_max2 {F : Nat} {σ : mMem} {z : Int} (h : sL z) : g_J9_max_f86c9 F (-1000000) (min 1000000 z) σ = some (clp z, σ) := by
  rw [z_maxl (by omega)]
  rfl
/-- the end of a step: what was joined is held, kept, and the loop goes on -/
theorem v_end {F q p : Nat} {k10 : Int → Int → Int → mMem → mRs} {x3 x4 x5 op a b z : Int} {σ : mMem} (hj : g_X2_joined F op (mw a) (mw b) σ = some (z, σ)) (hz : sL z) (h4 : 0 ≤ x4 ∧ x4 < 80) :
    g_X2_valueOf_b171 F q p k10 x3 x4 x5 op a b σ = k10 x3 (x4 + 1) (x5 + 1) (mup σ (q + 2) x4.toNat (clp z)) := by
  unfold g_X2_valueOf_b171
  rw [hj, mob_eq, z_minl (by omega), mob_eq, z_max2 hz, mob_eq]
  simp (disch := omega) only [mlm, mw_id, if_pos]
theorem e_t {c : Prop} [Decidable c] {A B X : mRs} (h : c) (k : A = X) : (if c then A else B) = X := by rw [if_pos h]; exact k
theorem e_f {c : Prop} [Decidable c] {A B X : mRs} (h : ¬ c) (k : B = X) : (if c then A else B) = X := by rw [if_neg h]; exact k
theorem e_let {a : Int} {k : Int → mRs} {X : mRs} (h : k a = X) : mlet a k = X := h
theorem e_le {a : Int} (b : Int) {k : Int → mRs} {X : mRs} (e : a = b) (h : k b = X) : mlet a k = X := by subst e; exact h
theorem e_mem {σ : mMem} {k : mMem → mRs} {X : mRs} (h : k σ = X) : mlm σ k = X := h
theorem e_mob {q : mRs} {r : Int} {σ : mMem} {k : Int → mMem → mRs} {X : mRs} (e : q = some (r, σ)) (h : k r σ = X) : mob q k = X := by rw [e]; exact h
/-- the head of a step: the sign, how many values it wants -/
theorem v_head {F q p f : Nat} {c nd x3 x4 x5 : Int} {σ : mMem} (h3 : 0 ≤ x5 ∧ x5 < x3 ∧ x3 ≤ 1600) (hc : σ (p + 4) x5.toNat = c) (hc0 : 0 ≤ c ∧ c ≤ 160000) (h4 : nd ≤ x4 ∧ x4 ≤ 70)
    (hn : nd = if c % 16 < 2 then 0 else if c % 16 = 2 then 1 else if c % 16 = 15 then 3 else 2) :
    g_X2_valueOf_h10 F q p (f + 1) x3 x4 x5 σ = if c % 16 < 2 then g_X2_valueOf_b114 F q p (g_X2_valueOf_h10 F q p f) x3 (x4 - nd) x5 (c % 16) (c / 16) (σ (q + 2) (x4 - nd + 1).toNat) σ else g_X2_valueOf_b114 F q p (g_X2_valueOf_h10 F q p f) x3 (x4 - nd) x5 (c % 16) (σ (q + 2) (x4 - nd).toNat) (σ (q + 2) (x4 - nd + 1).toNat) σ := by
  have hnd : 0 ≤ nd ∧ nd ≤ 3 := by
    rw [hn]
    split <;> (try split) <;> (try split) <;> omega
  have h5 : mw x5 = x5 := mw_id (by omega) (by omega)
  have hop : (mw (σ (p + 4) (mw x5).toNat)).tmod (mw 16) = c % 16 := by
    rw [h5, hc]
    simp (disch := omega) only [mw_id, mwl_id, mtmod, mtdiv]
  have harg : (mw (σ (p + 4) (mw x5).toNat)).tdiv (mw 16) = c / 16 := by
    rw [h5, hc]
    simp (disch := omega) only [mw_id, mwl_id, mtmod, mtdiv]
  have hm : 0 ≤ c % 16 ∧ c % 16 ≤ 15 := by omega
  unfold g_X2_valueOf_h10
  refine e_f (by (try simp (disch := omega) only [mw_id, mwl_id, mw_mb, mb_0, mb_1]) <;> omega) ?_
  refine e_f (by (try simp (disch := omega) only [mw_id, mwl_id, mw_mb, mb_0, mb_1]) <;> omega) ?_
  refine e_t (by (try simp (disch := omega) only [mw_id, mwl_id, mw_mb, mb_0, mb_1]) <;> omega) ?_
  refine e_f (by (try simp (disch := omega) only [mw_id, mwl_id, mw_mb, mb_0, mb_1]) <;> omega) ?_
  refine e_le (c % 16) hop ?_
  refine e_mob (r := nd) (σ := σ) ?_ ?_
  · rw [z_needs hm, hn]
  refine e_f (by (try simp (disch := omega) only [mw_id, mwl_id, mw_mb, mb_0, mb_1]) <;> omega) ?_
  refine e_t (by (try simp (disch := omega) only [mw_id, mwl_id, mw_mb, mb_0, mb_1]) <;> omega) ?_
  refine e_let ?_
  refine e_t (by (try simp (disch := omega) only [mw_id, mwl_id, mw_mb, mb_0, mb_1]) <;> omega) ?_
  refine e_le (σ (q + 2) (x4 - nd).toNat) (by rw [mw_id (by omega) (by omega)]) ?_
  refine e_t (by (try simp (disch := omega) only [mw_id, mwl_id, mw_mb, mb_0, mb_1]) <;> omega) ?_
  refine e_le (σ (q + 2) (x4 - nd + 1).toNat) (by rw [mw_id (by omega) (by omega)]) ?_
  by_cases h2 : c % 16 < 2
  · rw [if_pos h2]
    refine e_f (by (try simp (disch := omega) only [mw_id, mwl_id, mw_mb, mb_0, mb_1]) <;> omega) ?_
    refine e_t (by (try simp (disch := omega) only [mw_id, mwl_id, mw_mb, mb_0, mb_1]) <;> omega) ?_
    refine e_f (by (try simp (disch := omega) only [mw_id, mwl_id, mw_mb, mb_0, mb_1]) <;> omega) ?_
    refine e_le (c / 16) harg ?_
    rfl
  · rw [if_neg h2]
    refine e_t (by (try simp (disch := omega) only [mw_id, mwl_id, mw_mb, mb_0, mb_1]) <;> omega) ?_
    rfl
theorem v_step {F q p f i : Nat} {code kn : Nat → Int} {x3 x4 x5 : Int} {st : List Int} {bs bs' : List Bool} {σ : mMem} (h3 : x5 < x3 ∧ x3 ≤ 1600) (h4 : x4 = (st.length : Int)) (h5 : x5 = (i : Int)) (ht : tyS st bs) (ho : okS bs (code i) = some bs') (hh : hol (σ (q + 2)) st)
    (hc : ∀ j, σ (p + 4) j = code j) {m : Int} (hm : code i % 16 = 1 → code i / 16 < m) (hk : ∀ j : Nat, (j : Int) < m → σ (q + 1) j = kn j) (hkv : ∀ j : Nat, (j : Int) < m → sV (kn j)) :
    ∃ σ' : mMem, g_X2_valueOf_h10 F q p (f + 1) x3 x4 x5 σ = g_X2_valueOf_h10 F q p f x3 ((sSt kn (code i) st).length : Int) (x5 + 1) σ' ∧ hol (σ' (q + 2)) (sSt kn (code i) st) ∧ ∀ o, o ≠ q + 2 → σ' o = σ o := by
  have hlen := tyS_len ht
  have hc0 : 0 ≤ code i ∧ code i ≤ 160000 ∧ bs.length ≤ 70 := by
    unfold okS at ho
    split at ho
    · cases ho
    · omega
  have hci : σ (p + 4) x5.toNat = code i := by
    rw [h5, Int.toNat_natCast]
    exact hc i
  have hop : 0 ≤ code i % 16 ∧ code i % 16 ≤ 15 := by omega
  have harg : 0 ≤ code i / 16 ∧ code i / 16 ≤ 10000 := by omega
  generalize hcc : code i = c at *
  unfold okS at ho
  rw [if_neg (by omega)] at ho
  have fin : ∀ (k : Nat) (z : Int) (rest : List Int), hol (σ (q + 2)) rest → rest.length = k → hol ((mup σ (q + 2) k z) (q + 2)) (z :: rest) ∧ ∀ o, o ≠ q + 2 → (mup σ (q + 2) k z) o = σ o := by
    intro k z rest hr hk
    rw [mup_row]
    refine ⟨⟨?_, hol_up (by omega) hr⟩, fun o h => mup_off h⟩
    rw [hk]
    simp [mup1]
  have go : ∀ (y : Int) (t : List Int) (v : Int), y = (t.length : Int) → g_X2_valueOf_h10 F q p f x3 (y + 1) (x5 + 1) (mup σ (q + 2) y.toNat v) = g_X2_valueOf_h10 F q p f x3 ((v :: t).length : Int) (x5 + 1) (mup σ (q + 2) t.length v) := by
    intro y t v hy
    subst hy
    simp
  by_cases e0 : c % 16 = 0
  · have es : sSt kn c st = clp (c / 16) :: st := by unfold sSt; rw [if_pos e0]
    rw [es]
    refine ⟨mup σ (q + 2) st.length (clp (c / 16)), ?_, fin _ _ st hh rfl⟩
    rw [v_head (nd := 0) (by omega) hci (by omega) (by omega) (by rw [if_pos (by omega)]), if_pos (by omega)]
    unfold g_X2_valueOf_b114
    refine e_t (by (try simp (disch := omega) only [mw_id, mwl_id, mw_mb, mb_0, mb_1]) <;> omega) ?_
    unfold g_X2_valueOf_b143
    refine e_t (by (try simp (disch := omega) only [mw_id, mwl_id, mw_mb, mb_0, mb_1]) <;> omega) ?_
    rw [v_end (z := c / 16) (by rw [z_joined01 (Or.inl e0), mw_id (by omega) (by omega)]) (by omega) (by omega)]
    exact go _ _ _ (by omega)
  by_cases e1 : c % 16 = 1
  · rw [if_neg e0, if_pos e1] at ho
    have ha : c / 16 < 7 := by
      split at ho
      · assumption
      · cases ho
    have hkk : σ (q + 1) (mw (c / 16)).toNat = kn (c / 16).toNat := by
      rw [mw_id (by omega) (by omega)]
      exact hk _ (by have := hm e1; omega)
    have hkv2 := hkv (c / 16).toNat (by have := hm e1; omega)
    have es : sSt kn c st = clp (kn (c / 16).toNat) :: st := by unfold sSt; rw [if_neg e0, if_pos e1]
    rw [es]
    refine ⟨mup σ (q + 2) st.length (clp (kn (c / 16).toNat)), ?_, fin _ _ st hh rfl⟩
    rw [v_head (nd := 0) (by omega) hci (by omega) (by omega) (by rw [if_pos (by omega)]), if_pos (by omega)]
    unfold g_X2_valueOf_b114
    refine e_f (by (try simp (disch := omega) only [mw_id, mwl_id, mw_mb, mb_0, mb_1]) <;> omega) ?_
    refine e_f (by (try simp (disch := omega) only [mw_id, mwl_id, mw_mb, mb_0, mb_1]) <;> omega) ?_
    refine e_t (by (try simp (disch := omega) only [mw_id, mwl_id, mw_mb, mb_0, mb_1]) <;> omega) ?_
    unfold g_X2_valueOf_b141 g_X2_valueOf_b143
    refine e_t (by (try simp (disch := omega) only [mw_id, mwl_id, mw_mb, mb_0, mb_1]) <;> omega) ?_
    rw [hkk, v_end (z := kn (c / 16).toNat) (by rw [z_joined01 (Or.inr e1), mw_sV hkv2]) (by omega) (by omega)]
    exact go _ _ _ (by omega)
  rw [if_neg e0, if_neg e1] at ho
  by_cases e2 : c % 16 = 2
  · rw [if_pos e2] at ho
    match st, bs, ht, ho, hh, hlen with
    | a :: t, true :: u, ht, ho, hh, hlen =>
      have h4b : x4 = (t.length : Int) + 1 := by rw [h4]; simp
      have hl2 : t.length ≤ 70 := by simp at hlen hc0; omega
      have hw0 : σ (q + 2) (x4 - 1).toNat = a := by
        rw [show (x4 - 1).toNat = t.length by omega]
        exact hh.1
      have es : sSt kn c (a :: t) = mb (a = 0) :: t := by unfold sSt; rw [if_neg e0, if_neg e1, if_pos e2]
      rw [es]
      refine ⟨mup σ (q + 2) t.length (mb (a = 0)), ?_, fin _ _ t hh.2 rfl⟩
      have hb := mb_rng (a = 0)
      rw [v_head (nd := 1) (by omega) hci (by omega) (by omega) (by rw [if_neg (by omega), if_pos e2]), if_neg (by omega), hw0]
      unfold g_X2_valueOf_b114
      refine e_t (by (try simp (disch := omega) only [mw_id, mwl_id, mw_mb, mb_0, mb_1]) <;> omega) ?_
      unfold g_X2_valueOf_b143
      refine e_t (by (try simp (disch := omega) only [mw_id, mwl_id, mw_mb, mb_0, mb_1]) <;> omega) ?_
      rw [v_end (z := mb (a = 0)) (by rw [e2, mw_sV ht.1, z_joined2 ht.1]) (by omega) (by omega), clp_id (by omega)]
      exact go _ _ _ (by omega)
    | a :: t, false :: u, ht, ho, hh, hlen => cases ho
    | [], [], ht, ho, hh, hlen => cases ho
  rw [if_neg e2] at ho
  by_cases e15 : c % 16 = 15
  · rw [if_pos e15] at ho
    match st, bs, ht, ho, hh, hlen with
    | z :: y :: x :: t, _ :: _ :: true :: u, ht, ho, hh, hlen =>
      have h4b : x4 = (t.length : Int) + 3 := by rw [h4]; simp; omega
      have hl2 : t.length ≤ 67 := by simp at hlen hc0; omega
      have hwx : σ (q + 2) (x4 - 3).toNat = x := by
        rw [show (x4 - 3).toNat = t.length by omega]
        exact hh.2.2.1
      have hwy : σ (q + 2) (x4 - 3 + 1).toNat = y := by
        rw [show (x4 - 3 + 1).toNat = t.length + 1 by omega]
        have := hh.2.1
        simpa using this
      have hwz : σ (q + 2) (mw (x4 - 3 + 2)).toNat = z := by
        rw [mw_id (by omega) (by omega), show (x4 - 3 + 2).toNat = t.length + 2 by omega]
        have := hh.1
        simpa using this
      have hvx := ht.2.2.2.2.1
      have hvy := ht.2.2.1
      have hvz := ht.1
      have es : sSt kn c (z :: y :: x :: t) = (if x = 0 then z else y) :: t := by unfold sSt; rw [if_neg e0, if_neg e1, if_neg e2, if_pos e15]
      rw [es]
      refine ⟨mup σ (q + 2) t.length (if x = 0 then z else y), ?_, fin _ _ t hh.2.2.2 rfl⟩
      rw [v_head (nd := 3) (by omega) hci (by omega) (by omega) (by rw [if_neg (by omega), if_neg e2, if_pos e15]), if_neg (by omega), hwx, hwy]
      unfold g_X2_valueOf_b114
      refine e_t (by (try simp (disch := omega) only [mw_id, mwl_id, mw_mb, mb_0, mb_1]) <;> omega) ?_
      unfold g_X2_valueOf_b143
      refine e_f (by (try simp (disch := omega) only [mw_id, mwl_id, mw_mb, mb_0, mb_1]) <;> omega) ?_
      by_cases hx0 : x = 0
      · rw [if_pos hx0]
        refine e_t (by rw [mw_sV hvx]; exact hx0) ?_
        refine e_t (by (try simp (disch := omega) only [mw_id, mwl_id, mw_mb, mb_0, mb_1]) <;> omega) ?_
        unfold g_X2_valueOf_b169
        rw [hwz, v_end (z := z) (by rw [e15, z_joined15, mw_sV hvz]) (by omega) (by omega), clp_id hvz]
        exact go _ _ _ (by omega)
      · rw [if_neg hx0]
        refine e_f (by rw [mw_sV hvx]; exact hx0) ?_
        unfold g_X2_valueOf_b169
        rw [v_end (z := y) (by rw [e15, z_joined15, mw_sV hvy]) (by omega) (by omega), clp_id hvy]
        exact go _ _ _ (by omega)
    | z :: y :: x :: t, _ :: _ :: false :: u, ht, ho, hh, hlen => cases ho
    | [z, y], [_, _], ht, ho, hh, hlen => cases ho
    | [z], [_], ht, ho, hh, hlen => cases ho
    | [], [], ht, ho, hh, hlen => cases ho
  rw [if_neg e15] at ho
  have key : ∃ (b a : Int) (t : List Int) (u : List Bool) (b1 b2 : Bool), st = b :: a :: t ∧ bs = b1 :: b2 :: u := by
    match st, bs, ht, ho with
    | b :: a :: t, b1 :: b2 :: u, ht, ho => exact ⟨b, a, t, u, b1, b2, rfl, rfl⟩
    | [b], [b1], ht, ho => cases b1 <;> simp at ho
    | [], [], ht, ho => simp at ho
  obtain ⟨b, a, t, u, b1, b2, rfl, rfl⟩ := key
  have h4b : x4 = (t.length : Int) + 2 := by rw [h4]; simp; omega
  have hl2 : t.length ≤ 68 := by simp at hc0 hlen; omega
  have hwa : σ (q + 2) (x4 - 2).toNat = a := by
    rw [show (x4 - 2).toNat = t.length by omega]
    exact hh.2.1
  have hwb : σ (q + 2) (x4 - 2 + 1).toNat = b := by
    rw [show (x4 - 2 + 1).toNat = t.length + 1 by omega]
    have := hh.1
    simpa using this
  have hva := ht.2.2.1
  have hvb := ht.1
  have es : sSt kn c (b :: a :: t) = clp (sJ (c % 16) a b) :: t := by unfold sSt; rw [if_neg e0, if_neg e1, if_neg e2, if_neg e15]
  rw [es]
  refine ⟨mup σ (q + 2) t.length (clp (sJ (c % 16) a b)), ?_, fin _ _ t hh.2.2 rfl⟩
  rw [v_head (nd := 2) (by omega) hci (by omega) (by omega) (by rw [if_neg (by omega), if_neg e2, if_neg e15]), if_neg (by omega), hwa, hwb]
  unfold g_X2_valueOf_b114
  refine e_t (by (try simp (disch := omega) only [mw_id, mwl_id, mw_mb, mb_0, mb_1]) <;> omega) ?_
  unfold g_X2_valueOf_b143
  refine e_t (by (try simp (disch := omega) only [mw_id, mwl_id, mw_mb, mb_0, mb_1]) <;> omega) ?_
  rw [v_end (z := sJ (c % 16) a b) (by rw [mw_sV hva, mw_sV hvb, z_joined hva hvb (by omega)]) (sJ_bound hva hvb) (by omega)]
  exact go _ _ _ (by omega)
theorem okR_ty {code kn : Nat → Int} : ∀ {n i : Nat} {st : List Int} {bs bs' : List Bool}, tyS st bs → okR code n i bs = some bs' → tyS (sRun code kn n i st) bs'
  | 0, i, st, bs, bs', h, ho => by cases ho; exact h
  | n + 1, i, st, bs, bs', h, ho => by
    unfold okR at ho
    cases h1 : okS bs (code i) with
    | none => rw [h1] at ho; cases ho
    | some b1 =>
      rw [h1] at ho
      exact okR_ty (st := sSt kn (code i) st) (okS_ty h h1) ho
theorem v_loop {F q p : Nat} {code kn : Nat → Int} {b : Bool} {m : Int} (hqp : p + 4 ≠ q + 2) (hkv : ∀ j : Nat, (j : Int) < m → sV (kn j)) : ∀ (n i fuel : Nat) (st : List Int) (bs : List Bool) (σ : mMem) (x3 x4 x5 : Int), n < fuel → x3 = (i : Int) + n → x3 ≤ 1600 → x4 = (st.length : Int) → x5 = (i : Int) → okR code n i bs = some [b] → tyS st bs → hol (σ (q + 2)) st → (∀ j, σ (p + 4) j = code j) → (∀ j, i ≤ j → j < i + n → code j % 16 = 1 → code j / 16 < m) → (∀ j : Nat, (j : Int) < m → σ (q + 1) j = kn j) →
    ∃ σ', g_X2_valueOf_h10 F q p fuel x3 x4 x5 σ = some ((sRun code kn n i st).headD 0, σ')
  | n, i, 0, st, bs, σ, x3, x4, x5, hf, _, _, _, _, _, _, _, _, _, _ => absurd hf (Nat.not_lt_zero n)
  | 0, i, f + 1, st, bs, σ, x3, x4, x5, hf, h3, h3b, h4, h5, ho, ht, hh, hc, hm, hk => by
    cases ho
    match st, ht with
    | [a], ht =>
      refine ⟨σ, ?_⟩
      have hw0 : σ (q + 2) 0 = a := hh.1
      have e : x4 = 1 := by rw [h4]; rfl
      unfold g_X2_valueOf_h10
      simp (disch := omega) only [g_X2_valueOf_b215, g_X2_valueOf_b231, mw_id, if_pos, if_neg, e, Int.toNat_zero, hw0]
      rfl
  | n + 1, i, f + 1, st, bs, σ, x3, x4, x5, hf, h3, h3b, h4, h5, ho, ht, hh, hc, hm, hk => by
    unfold okR at ho
    cases h1 : okS bs (code i) with
    | none => rw [h1] at ho; cases ho
    | some b1 =>
      rw [h1] at ho
      obtain ⟨σ1, e1, hh1, hfr⟩ := v_step (F := F) (f := f) (x3 := x3) (by omega) h4 h5 ht h1 hh hc (hm i (Nat.le_refl i) (by omega)) hk hkv
      rw [e1]
      exact v_loop hqp hkv n (i + 1) f _ b1 σ1 x3 _ _ (by omega) (by omega) h3b rfl (by omega) ho (okS_ty ht h1) hh1 (fun j => by rw [hfr _ hqp]; exact hc j) (fun j j1 j2 j3 => hm j (by omega) (by omega) j3) (fun j hj => by rw [hfr _ (by omega)]; exact hk j hj)
/-- what the class's machine works out -/
theorem z_valueOf {F q p : Nat} {σ : mMem} {a b m : Int} {n : Nat} {c : Bool} {kn : Nat → Int} (hqp : p + 4 ≠ q + 2) (hF : 2000 ≤ F) (ha : 0 ≤ a) (hb : b = a + n) (hb2 : b ≤ 1600) (ho : okR (σ (p + 4)) n a.toNat [] = some [c]) (hm : ∀ j, a.toNat ≤ j → j < a.toNat + n → σ (p + 4) j % 16 = 1 → σ (p + 4) j / 16 < m) (hk : ∀ j : Nat, (j : Int) < m → σ (q + 1) j = kn j) (hkv : ∀ j : Nat, (j : Int) < m → sV (kn j)) :
    ∃ σ', g_X2_valueOf F q p a b σ = some ((sRun (σ (p + 4)) kn n a.toNat []).headD 0, σ') := by
  unfold g_X2_valueOf
  rw [z_max (by omega), mob_eq]
  exact v_loop hqp hkv n a.toNat F [] [] σ b 0 (max a 0) (by omega) (by omega) hb2 rfl (by omega) ho trivial trivial (fun _ => rfl) hm hk
