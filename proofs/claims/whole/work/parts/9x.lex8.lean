/-! LAYER 2: kitchen, the reference reads a number, any sign -/
theorem r_runD {F l s : Nat} {τ0 : mMem} {b : Nat → Int} (hl : l ≤ 1600) (h2 : τ0 86 2 = (l : Int)) (hb : ∀ j, j < l → τ0 87 j = b j ∧ 0 ≤ b j ∧ b j ≤ 255) {g : Int} : ∀ (d m fuel : Nat) (τ : mMem), d + (s + m) = l → d < fuel → FA τ τ0 → (∀ j, j < m → xDg b (s + j)) → τ 86 6 = xNu b s (min m 4) → τ 86 12 = (if g = -1 then (if 4 < m then ((s + 4 : Nat) : Int) else -1) else g) → -1 ≤ g ∧ g ≤ 2000 → ∃ (n : Nat) (τ' : mMem), g_X12_ahead_h204 F fuel ((s + m : Nat) : Int) 0 1 4 (m : Int) τ = some (0, τ') ∧ FA τ' τ0 ∧ m ≤ n ∧ s + n ≤ l ∧ (∀ j, j < n → xDg b (s + j)) ∧ (s + n = l ∨ ¬ xDg b (s + n)) ∧ τ' 86 6 = xNu b s (min n 4) ∧ τ' 86 12 = (if g = -1 then (if 4 < n then ((s + 4 : Nat) : Int) else -1) else g) ∧ τ' 86 5 = ((s + n : Nat) : Int) ∧ τ' 86 3 = τ 86 3 ∧ τ' 86 4 = τ 86 4 ∧ τ' 86 7 = τ 86 7 := by
  intro d
  induction d with
  | zero =>
    intro m fuel τ e1 e2 e3 e4 e5 e6 e7
    obtain ⟨f, rfl⟩ : ∃ f, fuel = f + 1 := ⟨fuel - 1, by omega⟩
    refine ⟨m, mup τ 86 5 ((s + m : Nat) : Int), ?_, e3.up (by decide), by omega, by omega, e4, Or.inl (by omega), by rw [mup_ne (by decide)]; exact e5, by rw [mup_ne (by decide)]; exact e6, mup_at rfl rfl, mup_ne (by decide), mup_ne (by decide), mup_ne (by decide)⟩
    unfold g_X12_ahead_h204 g_X12_ahead_b334
    rw [e3.2 2 (by decide) (by decide) (by decide) (by decide) (by decide) (by decide), h2]
    exact e_t (by rw [mw_id (by omega) (by omega), mw_id (by omega) (by omega)]; omega) (e_mem rfl)
  | succ d ih =>
    intro m fuel τ e1 e2 e3 e4 e5 e6 e7
    obtain ⟨f, rfl⟩ : ∃ f, fuel = f + 1 := ⟨fuel - 1, by omega⟩
    obtain ⟨b1, b2, b3⟩ := hb (s + m) (by omega)
    have r87 : τ 87 (s + m) = b (s + m) := by rw [e3.1 87 (by decide)]; exact b1
    have head : ∀ X, (if mw (mb (48 ≤ b (s + m) ∧ b (s + m) ≤ 57)) = 0 then (g_X12_ahead_b334 F ((s + m : Nat) : Int) τ) else (g_X12_ahead_b243 F (g_X12_ahead_h204 F f) ((s + m : Nat) : Int) 0 1 4 (m : Int) τ)) = X → g_X12_ahead_h204 F (f + 1) ((s + m : Nat) : Int) 0 1 4 (m : Int) τ = X := by
      intro X hX
      conv => lhs; unfold g_X12_ahead_h204
      rw [e3.2 2 (by decide) (by decide) (by decide) (by decide) (by decide) (by decide), h2, mwN (i := s + m) (by omega), r87]
      exact e_f (by rw [mw_id (by omega) (by omega), mw_id (by omega) (by omega)]; omega) (e_t (by decide) (e_t (mwR (by omega) (by decide)) (e_mob (r_dig (by omega)) hX)))
    by_cases cl : xDg b (s + m)
    · obtain ⟨τ1, q1, q2, q3, q4, q5, q6, q7⟩ : ∃ τ1 : mMem, (g_X12_ahead_b243 F (g_X12_ahead_h204 F f) ((s + m : Nat) : Int) 0 1 4 (m : Int) τ = g_X12_ahead_h204 F f (((s + m : Nat) : Int) + 1) 0 1 4 ((m : Int) + 1) τ1) ∧ FA τ1 τ0 ∧ τ1 86 6 = xNu b s (min (m + 1) 4) ∧ τ1 86 12 = (if g = -1 then (if 4 < m + 1 then ((s + 4 : Nat) : Int) else -1) else g) ∧ τ1 86 3 = τ 86 3 ∧ τ1 86 4 = τ 86 4 ∧ τ1 86 7 = τ 86 7 := by
        obtain ⟨τa, ea⟩ : ∃ τa : mMem, τa = (if m = 4 ∧ g = -1 then mup τ 86 12 ((s + 4 : Nat) : Int) else τ) := ⟨_, rfl⟩
        have fa : FA τa τ0 := by
          rw [ea]
          split
          · exact e3.up (by decide)
          · exact e3
        have a12 : τa 86 12 = (if g = -1 then (if 4 < m + 1 then ((s + 4 : Nat) : Int) else -1) else g) := by
          rw [ea]
          by_cases c6 : m = 4 ∧ g = -1
          · rw [if_pos c6, mup_at rfl rfl, if_pos c6.2, if_pos (by omega)]
          · rw [if_neg c6, e6]
            by_cases cg : g = -1
            · rw [if_pos cg, if_pos cg]
              by_cases c : 4 < m
              · rw [if_pos c, if_pos (by omega)]
              · rw [if_neg c, if_neg (by omega)]
            · rw [if_neg cg, if_neg cg]
        have ao : ∀ j, j ≠ 12 → τa 86 j = τ 86 j := fun j hj => by
          rw [ea]
          split
          · rw [mup_ne (by omega)]
          · rfl
        have st1 : ∀ X, g_X12_ahead_b263 F (g_X12_ahead_h204 F f) ((s + m : Nat) : Int) 0 1 4 (m : Int) τa = X → g_X12_ahead_b243 F (g_X12_ahead_h204 F f) ((s + m : Nat) : Int) 0 1 4 (m : Int) τ = X := by
          intro X hX
          unfold g_X12_ahead_b243
          by_cases c6 : m = 4
          · refine e_f (fun e => e (by rw [c6]; rfl)) ?_
            by_cases cg : g = -1
            · rw [ea, if_pos ⟨c6, cg⟩] at hX
              have e12 : τ 86 12 = -1 := by rw [e6, if_pos cg, if_neg (show ¬ 4 < m by omega)]
              rw [e12]
              refine e_f (fun e => e rfl) (e_mem ?_)
              rw [show s + m = s + 4 by omega] at hX ⊢
              exact hX
            · rw [ea, if_neg (fun q => cg q.2)] at hX
              rw [e6, if_neg cg]
              exact e_t (by rw [mw_id (by omega) (by omega), show mw (-1) = -1 by decide]; exact cg) hX
          · rw [ea, if_neg (fun q => c6 q.1)] at hX
            exact e_t (by rw [mw_id (by omega) (by omega), mw_id (by omega) (by omega)]; omega) hX
        by_cases c6 : m < 4
        · have e5' : τa 86 6 = xNu b s m := by rw [ao 6 (by decide), e5, show min m 4 = m by omega]
          refine ⟨mup τa 86 6 (xNu b s (m + 1)), st1 _ ?_, fa.up (by decide), by rw [mup_at rfl rfl, show min (m + 1) 4 = m + 1 by omega], by rw [mup_ne (by decide)]; exact a12, by rw [mup_ne (by decide), ao 3 (by decide)], by rw [mup_ne (by decide), ao 4 (by decide)], by rw [mup_ne (by decide), ao 7 (by decide)]⟩
          unfold g_X12_ahead_b263 g_X12_ahead_b293 g_X12_ahead_b325
          rw [mwN (i := s + m) (by omega), fa.1 87 (by decide), b1, e5']
          exact e_f (by rw [mw_id (by omega) (by omega), mw_id (by omega) (by omega)]; omega) (e_t (by decide) (e_f (by rw [mw_id (by omega) (by omega), mw_id (by omega) (by omega)]; omega) (e_f (by decide) (e_t (mwR (by omega) (by decide)) (e_mem rfl)))))
        · refine ⟨τa, st1 _ ?_, fa, by rw [ao 6 (by decide), e5, show min m 4 = 4 by omega, show min (m + 1) 4 = 4 by omega], a12, ao 3 (by decide), ao 4 (by decide), ao 7 (by decide)⟩
          unfold g_X12_ahead_b263 g_X12_ahead_b293 g_X12_ahead_b325
          exact e_t (by rw [mw_id (by omega) (by omega), mw_id (by omega) (by omega)]; omega) (e_t (by rw [mw_id (by omega) (by omega), mw_id (by omega) (by omega)]; omega) rfl)
      obtain ⟨n, τ', t1, t2, t3, t4, t5, t6, t7, t8, t9, t10, t11, t12⟩ := ih (m + 1) f τ1 (by omega) (by omega) q2 (fun j hj => by
        by_cases cj : j = m
        · rw [cj]; exact cl
        · exact e4 j (by omega)) q3 q4 e7
      refine ⟨n, τ', head _ ?_, t2, by omega, t4, t5, t6, t7, t8, t9, by rw [t10, q5], by rw [t11, q6], by rw [t12, q7]⟩
      rw [mb_t cl]
      refine e_f (by decide) (q1.trans ?_)
      rw [← t1, show ((s + (m + 1) : Nat) : Int) = ((s + m : Nat) : Int) + 1 by omega, show ((m + 1 : Nat) : Int) = (m : Int) + 1 by omega]
    · refine ⟨m, mup τ 86 5 ((s + m : Nat) : Int), head _ ?_, e3.up (by decide), by omega, by omega, e4, Or.inr cl, by rw [mup_ne (by decide)]; exact e5, by rw [mup_ne (by decide)]; exact e6, mup_at rfl rfl, mup_ne (by decide), mup_ne (by decide), mup_ne (by decide)⟩
      rw [mb_f cl]
      unfold g_X12_ahead_b334
      exact e_t (by decide) (e_mem rfl)
/-- the sign at s, as the reference holds it -/
def RSg (τ : mMem) (b : Nat → Int) (l s : Nat) : Prop := (s = l ∧ τ 86 3 = 0 ∧ τ 86 4 = (l : Int) ∧ τ 86 5 = (l : Int) ∧ τ 86 12 = -1) ∨ ((s < l ∧ ¬ xBla b s ∧ τ 86 4 = (s : Int)) ∧ ((¬ xLt b s ∧ ¬ xDg b s ∧ τ 86 3 = 3 ∧ τ 86 6 = b s ∧ τ 86 5 = ((s + 1 : Nat) : Int) ∧ τ 86 12 = -1) ∨ (∃ n, (1 ≤ n ∧ s + n ≤ l) ∧ (∀ j, j < n → xLt b (s + j)) ∧ (s + n = l ∨ ¬ xLt b (s + n)) ∧ τ 86 3 = 1 ∧ τ 86 5 = ((s + n : Nat) : Int) ∧ τ 86 7 = hw (xLs b s) (min n 6) ∧ τ 86 12 = (if xJn b s then (s : Int) else if 6 < n then ((s + 6 : Nat) : Int) else -1)) ∨ (∃ n, (1 ≤ n ∧ s + n ≤ l) ∧ (∀ j, j < n → xDg b (s + j)) ∧ (s + n = l ∨ ¬ xDg b (s + n)) ∧ τ 86 3 = 2 ∧ τ 86 5 = ((s + n : Nat) : Int) ∧ τ 86 6 = xNu b s (min n 4) ∧ τ 86 12 = (if xJn b s then (s : Int) else if 4 < n then ((s + 4 : Nat) : Int) else -1))))
theorem r_ahead {F e l : Nat} {τ : mMem} {b : Nat → Int} (hF : 2000 ≤ F) (hl : l ≤ 1600) (he : e ≤ l) (h2 : τ 86 2 = (l : Int)) (h5 : τ 86 5 = (e : Int)) (hb : ∀ j, j < l → τ 87 j = b j ∧ 0 ≤ b j ∧ b j ≤ 255) : ∃ (s : Nat) (τ' : mMem), g_X12_ahead F τ = some (0, τ') ∧ FA τ' τ ∧ (e ≤ s ∧ s ≤ l) ∧ (∀ j, e ≤ j → j < s → xBla b j) ∧ RSg τ' b l s := by
  have skip : ∀ (d k fuel : Nat), d + k = l → d < fuel → e ≤ k → (∀ j, e ≤ j → j < k → xBla b j) → ∃ s, (e ≤ s ∧ s ≤ l) ∧ (∀ j, e ≤ j → j < s → xBla b j) ∧ (s < l → ¬ xBla b s) ∧ g_X12_ahead_h5 F fuel (k : Int) τ = g_X12_ahead_b41 F (s : Int) τ := by
    intro d
    induction d with
    | zero =>
      intro k fuel e1 e2 e3 e4
      obtain ⟨f, rfl⟩ : ∃ f, fuel = f + 1 := ⟨fuel - 1, by omega⟩
      refine ⟨k, by omega, e4, fun h => absurd h (by omega), ?_⟩
      conv => lhs; unfold g_X12_ahead_h5
      rw [h2]
      exact e_t (by rw [mw_id (by omega) (by omega), mw_id (by omega) (by omega)]; omega) rfl
    | succ d ih =>
      intro k fuel e1 e2 e3 e4
      obtain ⟨f, rfl⟩ : ∃ f, fuel = f + 1 := ⟨fuel - 1, by omega⟩
      obtain ⟨b1, b2, b3⟩ := hb k (by omega)
      have hd : ∀ X, (if xBla b k then (g_X12_ahead_h5 F f ((k : Int) + 1) τ) else (g_X12_ahead_b41 F (k : Int) τ)) = X → g_X12_ahead_h5 F (f + 1) (k : Int) τ = X := by
        intro X hX
        conv => lhs; unfold g_X12_ahead_h5 g_X12_ahead_b35
        rw [h2, mwN (i := k) (by omega), b1, mw_id (z := b k) (by omega) (by omega), mw_id (z := 32) (by decide) (by decide), mw_id (z := 10) (by decide) (by decide)]
        refine e_f (by rw [mw_id (by omega) (by omega), mw_id (by omega) (by omega)]; omega) (e_t (mwR (by omega) (by decide)) ?_)
        by_cases c1 : b k = 32
        · rw [if_pos (Or.inl c1)] at hX
          exact e_t c1 hX
        · refine e_f c1 (e_t (mwR (by omega) (by decide)) ?_)
          by_cases c2 : b k = 10
          · rw [if_pos (Or.inr c2)] at hX
            exact e_f (fun e => e c2) hX
          · rw [if_neg (by omega)] at hX
            exact e_t c2 hX
      by_cases cb : xBla b k
      · obtain ⟨s, s1, s2, s3, s4⟩ := ih (k + 1) f (by omega) (by omega) (by omega) (fun j j1 j2 => by
          by_cases cj : j = k
          · rw [cj]; exact cb
          · exact e4 j j1 (by omega))
        refine ⟨s, s1, s2, s3, hd _ ((if_pos cb).trans ?_)⟩
        rw [← s4, show ((k + 1 : Nat) : Int) = (k : Int) + 1 by omega]
      · exact ⟨k, by omega, e4, fun _ => cb, hd _ (if_neg cb)⟩
  obtain ⟨s, s1, s2, s3, s4⟩ := skip (l - e) e F (by omega) (by omega) (by omega) (fun j j1 j2 => absurd j1 (by omega))
  obtain ⟨τ1, e1⟩ : ∃ y, y = mup (mup (mup (mup τ 86 4 (s : Int)) 86 5 (s : Int)) 86 3 0) 86 12 (-1) := ⟨_, rfl⟩
  have f1 : FA τ1 τ := by rw [e1]; exact (((FA.rfl'.up (by decide)).up (by decide)).up (by decide)).up (by decide)
  have v4 : τ1 86 4 = (s : Int) := by rw [e1, mup_ne (by decide), mup_ne (by decide), mup_ne (by decide), mup_at rfl rfl]
  have head : ∀ X, (if mw (s : Int) < mw (l : Int) then (if 0 ≤ mw (s : Int) ∧ mw (s : Int) < (1800 : Int) then mob (g_X12_isLetter F (τ1 87 s) τ1) (fun r206 σ207 => if 0 ≤ mw (s : Int) ∧ mw (s : Int) < (1800 : Int) then mob (g_X12_isDigit F (σ207 87 s) σ207) (fun r208 σ209 => if ¬ mw r206 = 0 then (g_X12_ahead_b98 F (s : Int) r206 r208 σ209) else (if mw r208 = 0 then (g_X12_ahead_b135 F (s : Int) r206 r208 σ209) else (g_X12_ahead_b98 F (s : Int) r206 r208 σ209))) else none) else none) else (some (0, τ1))) = X → g_X12_ahead F τ = X := by
    intro X hX
    unfold g_X12_ahead
    rw [h5]
    refine e_let (s4.trans ?_)
    unfold g_X12_ahead_b41
    refine e_mem (e_mem (e_mem (e_mem ?_)))
    rw [← e1, mwN (i := s) (by omega), f1.2 2 (by decide) (by decide) (by decide) (by decide) (by decide) (by decide), h2]
    exact hX
  by_cases cs : s = l
  · refine ⟨s, τ1, head _ (if_neg (by rw [cs]; omega)), f1, s1, s2, Or.inl ⟨cs, by rw [e1, mup_ne (by decide), mup_at rfl rfl], by rw [v4, cs], by rw [e1, mup_ne (by decide), mup_ne (by decide), mup_at rfl rfl, cs], by rw [e1, mup_at rfl rfl]⟩⟩
  · have sl : s < l := by omega
    obtain ⟨b1, b2, b3⟩ := hb s sl
    have nb := s3 sl
    have r87 : τ1 87 s = b s := by rw [f1.1 87 (by decide)]; exact b1
    obtain ⟨g, eg⟩ : ∃ g : Int, g = (if xJn b s then (s : Int) else -1) := ⟨_, rfl⟩
    have gr : -1 ≤ g ∧ g ≤ 2000 := by rw [eg]; split <;> omega
    obtain ⟨τj, ej⟩ : ∃ y : mMem, y = (if xJn b s then mup τ1 86 12 (s : Int) else τ1) := ⟨_, rfl⟩
    have fj : FA τj τ := by
      rw [ej]
      split
      · exact f1.up (by decide)
      · exact f1
    have j12 : τj 86 12 = g := by
      rw [ej, eg]
      by_cases c : xJn b s
      · rw [if_pos c, if_pos c, mup_at rfl rfl]
      · rw [if_neg c, if_neg c, e1, mup_at rfl rfl]
    have j4 : τj 86 4 = (s : Int) := by
      rw [ej]
      split
      · rw [mup_ne (by decide)]; exact v4
      · exact v4
    have ejn : ¬ xJn b s → τj = τ1 := fun h => by rw [ej, if_neg h]
    have ejp : xJn b s → τj = mup τ1 86 12 (s : Int) := fun h => by rw [ej, if_pos h]
    have jn : (xLt b s ∨ xDg b s) → ∀ x2 x3 : Int, g_X12_ahead_b98 F (s : Int) x2 x3 τ1 = g_X12_ahead_b135 F (s : Int) x2 x3 τj := by
      intro cld x2 x3
      unfold g_X12_ahead_b98 g_X12_ahead_b130
      by_cases c0 : s = 0
      · rw [ejn (fun q => by have := q.2.1; omega)]
        exact e_t (by rw [c0]; decide) rfl
      · have hp := hb (s - 1) (by omega)
        have p87 : τ1 87 (s - 1) = b (s - 1) := by rw [f1.1 87 (by decide)]; exact hp.1
        rw [show (s : Int) - 1 = ((s - 1 : Nat) : Int) by omega, mwN (i := s - 1) (by omega), p87]
        refine e_f (by rw [mw_id (by omega) (by omega)]; omega) (e_t (mwR (by omega) (by decide)) (e_mob (r_let (by omega)) ?_))
        by_cases cp : xLt b (s - 1)
        · rw [mb_t cp, ejp ⟨cld, by omega, Or.inl cp⟩]
          exact e_t (by decide) (e_mem rfl)
        · rw [mb_f cp]
          refine e_f (by decide) (e_t (mwR (by omega) (by decide)) ?_)
          rw [p87]
          refine e_mob (r_dig (by omega)) ?_
          by_cases cq : xDg b (s - 1)
          · rw [mb_t cq, ejp ⟨cld, by omega, Or.inr cq⟩]
            exact e_f (by decide) (e_mem rfl)
          · rw [mb_f cq, ejn (fun q => by rcases q.2.2 with w | w; exact cp w; exact cq w)]
            exact e_t (by decide) rfl
    by_cases cl : xLt b s
    · have ndg : ¬ xDg b s := by omega
      obtain ⟨τ2, e2⟩ : ∃ y, y = mup (mup (mup (mup (mup τj 86 6 0) 86 7 0) 86 3 3) 86 5 ((s : Int) + 1)) 86 3 1 := ⟨_, rfl⟩
      have f2 : FA τ2 τ := by rw [e2]; exact ((((fj.up (by decide)).up (by decide)).up (by decide)).up (by decide)).up (by decide)
      obtain ⟨n, τ', t1, t2, t3, t4, t5, t6, t7, t8, t9, t10, t11, t12⟩ := r_runL (F := F) (l := l) (s := s) (τ0 := τ) (b := b) (g := g) hl h2 hb (l - s) 0 F τ2 (by omega) (by omega) f2 (fun j hj => absurd hj (by omega)) (by rw [e2, mup_ne (by decide), mup_ne (by decide), mup_ne (by decide), mup_at rfl rfl]; rfl) (by
        rw [e2, mup_ne (by decide), mup_ne (by decide), mup_ne (by decide), mup_ne (by decide), mup_ne (by decide), j12]
        by_cases c : g = -1
        · rw [if_pos c, if_neg (by omega)]; exact c
        · rw [if_neg c]) gr
      have n1 : 1 ≤ n := by
        by_cases c : n = 0
        · subst c
          rcases t6 with h | h
          · omega
          · exact absurd cl h
        · omega
      refine ⟨s, τ', head _ ((if_pos (by rw [mw_id (by omega) (by omega), mw_id (by omega) (by omega)]; omega)).trans ?_), t2, s1, s2, Or.inr ⟨⟨sl, nb, by rw [t11, e2, mup_ne (by decide), mup_ne (by decide), mup_ne (by decide), mup_ne (by decide), mup_ne (by decide)]; exact j4⟩, Or.inr (Or.inl ⟨n, ⟨n1, t4⟩, t5, t6, by rw [t10, e2, mup_at rfl rfl], t9, t7, ?_⟩)⟩⟩
      · rw [r87]
        refine e_t (mwR (by omega) (by decide)) (e_mob (r_let (by omega)) (e_t (mwR (by omega) (by decide)) ?_))
        rw [r87]
        refine e_mob (r_dig (by omega)) ?_
        rw [mb_t cl, mb_f ndg]
        refine e_t (by decide) ((jn (Or.inl cl) 1 0).trans ?_)
        unfold g_X12_ahead_b135 g_X12_ahead_b176 g_X12_ahead_b186 g_X12_ahead_b199
        refine e_mem (e_mem (e_mem (e_mem (e_t (by decide) (e_f (by decide) (e_mem (e_f (by decide) ?_)))))))
        rw [← e2]
        exact t1
      · rw [t8, eg]
        by_cases c : xJn b s
        · rw [if_pos c, if_pos c, if_neg (by omega)]
        · rw [if_neg c, if_neg c, if_pos rfl]
    · by_cases cg : xDg b s
      · obtain ⟨τ2, e2⟩ : ∃ y, y = mup (mup (mup (mup (mup τj 86 6 0) 86 7 0) 86 3 3) 86 5 ((s : Int) + 1)) 86 3 2 := ⟨_, rfl⟩
        have f2 : FA τ2 τ := by rw [e2]; exact ((((fj.up (by decide)).up (by decide)).up (by decide)).up (by decide)).up (by decide)
        obtain ⟨n, τ', t1, t2, t3, t4, t5, t6, t7, t8, t9, t10, t11, t12⟩ := r_runD (F := F) (l := l) (s := s) (τ0 := τ) (b := b) (g := g) hl h2 hb (l - s) 0 F τ2 (by omega) (by omega) f2 (fun j hj => absurd hj (by omega)) (by rw [e2, mup_ne (by decide), mup_ne (by decide), mup_ne (by decide), mup_ne (by decide), mup_at rfl rfl]; rfl) (by
          rw [e2, mup_ne (by decide), mup_ne (by decide), mup_ne (by decide), mup_ne (by decide), mup_ne (by decide), j12]
          by_cases c : g = -1
          · rw [if_pos c, if_neg (by omega)]; exact c
          · rw [if_neg c]) gr
        have n1 : 1 ≤ n := by
          by_cases c : n = 0
          · subst c
            rcases t6 with h | h
            · omega
            · exact absurd cg h
          · omega
        refine ⟨s, τ', head _ ((if_pos (by rw [mw_id (by omega) (by omega), mw_id (by omega) (by omega)]; omega)).trans ?_), t2, s1, s2, Or.inr ⟨⟨sl, nb, by rw [t11, e2, mup_ne (by decide), mup_ne (by decide), mup_ne (by decide), mup_ne (by decide), mup_ne (by decide)]; exact j4⟩, Or.inr (Or.inr ⟨n, ⟨n1, t4⟩, t5, t6, by rw [t10, e2, mup_at rfl rfl], t9, t7, ?_⟩)⟩⟩
        · rw [r87]
          refine e_t (mwR (by omega) (by decide)) (e_mob (r_let (by omega)) (e_t (mwR (by omega) (by decide)) ?_))
          rw [r87]
          refine e_mob (r_dig (by omega)) ?_
          rw [mb_f cl, mb_t cg]
          refine e_f (by decide) (e_f (by decide) ((jn (Or.inr cg) 0 1).trans ?_))
          unfold g_X12_ahead_b135 g_X12_ahead_b176 g_X12_ahead_b186 g_X12_ahead_b199
          refine e_mem (e_mem (e_mem (e_mem (e_f (by decide) (e_t (by decide) (e_t (by decide) (e_mem (e_t (by decide) ?_))))))))
          rw [← e2]
          exact t1
        · rw [t8, eg]
          by_cases c : xJn b s
          · rw [if_pos c, if_pos c, if_neg (by omega)]
          · rw [if_neg c, if_neg c, if_pos rfl]
      · obtain ⟨τ2, e2⟩ : ∃ y, y = mup (mup (mup (mup (mup τ1 86 6 0) 86 7 0) 86 3 3) 86 5 ((s : Int) + 1)) 86 6 (b s) := ⟨_, rfl⟩
        have f2 : FA τ2 τ := by rw [e2]; exact ((((f1.up (by decide)).up (by decide)).up (by decide)).up (by decide)).up (by decide)
        refine ⟨s, τ2, head _ ((if_pos (by rw [mw_id (by omega) (by omega), mw_id (by omega) (by omega)]; omega)).trans ?_), f2, s1, s2, Or.inr ⟨⟨sl, nb, by rw [e2, mup_ne (by decide), mup_ne (by decide), mup_ne (by decide), mup_ne (by decide), mup_ne (by decide)]; exact v4⟩, Or.inl ⟨cl, cg, by rw [e2, mup_ne (by decide), mup_ne (by decide), mup_at rfl rfl], by rw [e2, mup_at rfl rfl], by rw [e2, mup_ne (by decide), mup_at rfl rfl]; omega, by rw [e2, mup_ne (by decide), mup_ne (by decide), mup_ne (by decide), mup_ne (by decide), mup_ne (by decide), e1, mup_at rfl rfl]⟩⟩⟩
        rw [r87]
        refine e_t (mwR (by omega) (by decide)) (e_mob (r_let (by omega)) (e_t (mwR (by omega) (by decide)) ?_))
        rw [r87]
        refine e_mob (r_dig (by omega)) ?_
        rw [mb_f cl, mb_f cg]
        refine e_f (by decide) (e_t (by decide) ?_)
        unfold g_X12_ahead_b135
        refine e_mem (e_mem (e_mem (e_mem (e_f (by decide) (e_f (by decide) (e_t (mwR (by omega) (by decide)) (e_mem ?_)))))))
        rw [mup_off (o := 86) (q := 87) (by decide), mup_off (o := 86) (q := 87) (by decide), mup_off (o := 86) (q := 87) (by decide), mup_off (o := 86) (q := 87) (by decide), mwN (i := s) (by omega), r87, ← e2]
