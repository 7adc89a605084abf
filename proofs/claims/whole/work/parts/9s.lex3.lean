/-! LAYER 2: kitchen, the class reads all -/
def FS (σ' σ : mMem) : Prop := (∀ q, q ≠ 14 → q ≠ 16 → q ≠ 17 → q ≠ 18 → σ' q = σ q) ∧ ∀ j, j ≠ 5 → σ' 14 j = σ 14 j
theorem FS.rfl' {σ : mMem} : FS σ σ := ⟨fun _ _ _ _ _ => rfl, fun _ _ => rfl⟩
theorem FS.tr {a b c : mMem} (h : FS a b) (g : FS b c) : FS a c := ⟨fun q q1 q2 q3 q4 => (h.1 q q1 q2 q3 q4).trans (g.1 q q1 q2 q3 q4), fun j hj => (h.2 j hj).trans (g.2 j hj)⟩
theorem xCt_s {b : Nat → Int} {k : Nat} (h : xSg b k) : xCt b (k + 1) = xCt b k + 1 := by
  show xCt b k + (if xSg b k then 1 else 0) = _
  rw [if_pos h]
theorem xCt_n {b : Nat → Int} {k : Nat} (h : ¬ xSg b k) : xCt b (k + 1) = xCt b k := by
  show xCt b k + (if xSg b k then 1 else 0) = _
  rw [if_neg h]
  rfl
/-- a sign that ended ahead of another -/
theorem TokC.cut {σ : mMem} {b : Nat → Int} {s' i k s : Nat} (h : TokC σ b s' i k) (h1 : s' < s) (h2 : s ≤ k) (hs : xSg b s) : TokC σ b s' i s := by
  obtain ⟨w1, w2, w3⟩ := h
  refine ⟨w1, w2, ?_⟩
  rcases w3 with w3 | ⟨m, m1, m2, m3, m4⟩ | ⟨m, m1, m2, m3, m4⟩
  · exact Or.inl w3
  · have ms : s' + m ≤ s := by
      by_cases c : s' + m ≤ s
      · exact c
      · exfalso
        have q1 := m2 (s - s') (by omega)
        have q2 := m2 (s - s' - 1) (by omega)
        rw [show s' + (s - s') = s by omega] at q1
        rw [show s' + (s - s' - 1) = s - 1 by omega] at q2
        exact hs.2.1 ⟨q1, by omega, q2⟩
    refine Or.inr (Or.inl ⟨m, by omega, m2, ?_, m4⟩)
    by_cases c : s' + m = s
    · exact Or.inl c
    · rcases m3 with e | e
      · omega
      · exact Or.inr e
  · have ms : s' + m ≤ s := by
      by_cases c : s' + m ≤ s
      · exact c
      · exfalso
        have q1 := m2 (s - s') (by omega)
        have q2 := m2 (s - s' - 1) (by omega)
        rw [show s' + (s - s') = s by omega] at q1
        rw [show s' + (s - s' - 1) = s - 1 by omega] at q2
        exact hs.2.2 ⟨q1, by omega, q2⟩
    refine Or.inr (Or.inr ⟨m, by omega, m2, ?_, m4⟩)
    by_cases c : s' + m = s
    · exact Or.inl c
    · rcases m3 with e | e
      · omega
      · exact Or.inr e
theorem TokC.mv {σ : mMem} {b : Nat → Int} {s' i k s k' : Nat} (h : TokC σ b s' i k) (h1 : s' < s) (h2 : s ≤ k) (hs : xSg b s) (hk : s ≤ k') : TokC σ b s' i k' := by
  obtain ⟨w1, w2, w3⟩ := h.cut h1 h2 hs
  refine ⟨w1, w2, ?_⟩
  rcases w3 with w3 | ⟨m, m1, m2, m3, m4⟩ | ⟨m, m1, m2, m3, m4⟩
  · exact Or.inl w3
  · refine Or.inr (Or.inl ⟨m, by omega, m2, Or.inr ?_, m4⟩)
    rcases m3 with e | e
    · intro q
      have q2 := m2 (m - 1) (by omega)
      rw [show s' + (m - 1) = s - 1 by omega] at q2
      rw [e] at q
      exact hs.2.1 ⟨q, by omega, q2⟩
    · exact e
  · refine Or.inr (Or.inr ⟨m, by omega, m2, Or.inr ?_, m4⟩)
    rcases m3 with e | e
    · intro q
      have q2 := m2 (m - 1) (by omega)
      rw [show s' + (m - 1) = s - 1 by omega] at q2
      rw [e] at q
      exact hs.2.2 ⟨q, by omega, q2⟩
    · exact e
theorem c_scan {F k l : Nat} {σ : mMem} {b : Nat → Int} (hl : l ≤ 1600) (hk : k < l) (h1 : σ 1 1 = (l : Int)) (h2 : σ 2 = b) (hb : ∀ j, j < l → 0 ≤ b j ∧ b j ≤ 255) (h : ScI σ b k) : ∃ σ', FS σ' σ ∧ ((g_X8_scan F (k : Int) σ = some (1, σ') ∧ ScI σ' b (k + 1)) ∨ (g_X8_scan F (k : Int) σ = some (0, σ') ∧ ∃ s, ScB σ' b k s)) := by
  obtain ⟨hc, hT⟩ := h
  have bk := hb k hk
  have ck := (xCt_le (b := b) (j := 0) (k := k) (by omega)).2
  have z0 : xCt b 0 = 0 := rfl
  have c1600 : xCt b k < 1600 := by omega
  -- the byte ahead
  obtain ⟨pv, epv, at1⟩ : ∃ pv : Int, (0 < k → pv = b (k - 1)) ∧ ((k = 0 → pv = -1) ∧ (-1 ≤ pv ∧ pv ≤ 255) ∧ g_X7_at F ((k : Int) - 1) σ = some (pv, σ)) := by
    by_cases c : k = 0
    · subst c
      refine ⟨-1, fun h => absurd h (by omega), fun _ => rfl, by decide, ?_⟩
      unfold g_X7_at g_X7_at_b19 g_X7_at_b29
      exact e_t (by decide) rfl
    · have := hb (k - 1) (by omega)
      refine ⟨b (k - 1), fun _ => rfl, fun h => absurd h c, by omega, ?_⟩
      rw [show (k : Int) - 1 = ((k - 1 : Nat) : Int) by omega]
      exact zt_at hl h1 (by rw [h2]) (by omega)
  obtain ⟨pv0, pvr, at1⟩ := at1
  have pl : (97 ≤ pv ∧ pv ≤ 122) ↔ (0 < k ∧ xLt b (k - 1)) := by
    by_cases c : 0 < k
    · rw [epv c]; exact ⟨fun q => ⟨c, q⟩, fun q => q.2⟩
    · rw [pv0 (by omega)]; exact ⟨fun q => absurd q (by decide), fun q => absurd q.1 c⟩
  have pd : (48 ≤ pv ∧ pv ≤ 57) ↔ (0 < k ∧ xDg b (k - 1)) := by
    by_cases c : 0 < k
    · rw [epv c]; exact ⟨fun q => ⟨c, q⟩, fun q => q.2⟩
    · rw [pv0 (by omega)]; exact ⟨fun q => absurd q (by decide), fun q => absurd q.1 c⟩
  have at0 : g_X7_at F (k : Int) σ = some (b k, σ) := zt_at hl h1 (by rw [h2]) hk
  have old : ∀ s, s < k → xSg b s → xCt b s < xCt b k := fun s hs hg => xCt_lt hs hg
  -- a new sign (kind, value), its record after
  have newS : ∀ (σ2 : mMem) (K V : Int), σ2 = mup (mup (mup (mup σ 16 (xCt b k) K) 17 (xCt b k) (k : Int)) 18 (xCt b k) V) 14 5 ((xCt b k : Int) + 1) → FS σ2 σ ∧ σ2 14 5 = (xCt b k : Int) + 1 ∧ σ2 16 (xCt b k) = K ∧ σ2 17 (xCt b k) = (k : Int) ∧ σ2 18 (xCt b k) = V ∧ ∀ i, i < xCt b k → σ2 16 i = σ 16 i ∧ σ2 17 i = σ 17 i ∧ σ2 18 i = σ 18 i := by
    intro σ2 K V e
    refine ⟨⟨fun q q1 q2 q3 q4 => by rw [e, mup_off q1, mup_off q4, mup_off q3, mup_off q2], fun j hj => by rw [e, mup_ne (by omega), mup_off (by decide), mup_off (by decide), mup_off (by decide)]⟩, by rw [e, mup_at rfl rfl], by rw [e, mup_off (by decide), mup_off (by decide), mup_off (by decide), mup_at rfl rfl], by rw [e, mup_off (by decide), mup_off (by decide), mup_at rfl rfl], by rw [e, mup_off (by decide), mup_at rfl rfl], fun i hi => ⟨?_, ?_, ?_⟩⟩
    · rw [e, mup_off (by decide), mup_off (by decide), mup_off (by decide), mup_ne (by omega)]
    · rw [e, mup_off (by decide), mup_off (by decide), mup_ne (by omega), mup_off (by decide)]
    · rw [e, mup_off (by decide), mup_ne (by omega), mup_off (by decide), mup_off (by decide)]
  by_cases cb : xBla b k
  · -- a blank
    have ns : ¬ xSg b k := fun q => q.1 cb
    refine ⟨σ, FS.rfl', Or.inl ⟨?_, by rw [xCt_n ns]; exact hc, fun s hs hg => ?_⟩⟩
    · unfold g_X8_scan
      refine e_mob at0 (e_mob at1 (e_mob (c_bla (by omega)) ?_))
      rw [mb_t cb]
      exact e_f (by decide) (e_t (by decide) rfl)
    · have hs' : s < k := by
        by_cases c : s = k
        · rw [c] at hg; exact absurd hg ns
        · omega
      exact (hT s hs' hg).on hs' (fun q => by have := q.1; omega) (fun q => by have := q.1; omega)
  · by_cases cl : xLt b k
    · by_cases cp : 0 < k ∧ xLt b (k - 1)
      · -- a letter behind a letter
        have ns : ¬ xSg b k := fun q => q.2.1 ⟨cl, cp.1, cp.2⟩
        obtain ⟨s, s1, s2, s3, s4⟩ := last_st (b := b) k cp.1 (by have := cp.2; omega)
        have rl := run_lt s1 cp.2 s4
        have ls : xLt b s := by have := rl (k - 1 - s) (by omega); rw [show k - 1 - (k - 1 - s) = s by omega] at this; exact this
        have T := hT s s1 s2
        obtain ⟨t1, t2, t3⟩ := T
        have hn : ∃ n, (1 ≤ n ∧ n ≤ 6 ∧ s + n = k) ∧ (∀ j, j < n → xLt b (s + j)) ∧ σ 18 (xCt b s) = xPk b s n := by
          rcases t3 with t3 | ⟨n, n1, n2, n3, n4, n5⟩ | ⟨n, n1, n2, n3, n4, n5⟩
          · exact absurd ls t3.1
          · refine ⟨n, ⟨n1.1, n1.2.1, ?_⟩, n2, n5⟩
            rcases n3 with e | e
            · exact e
            · by_cases c : s + n = k
              · exact c
              · exfalso
                apply e
                have := rl (k - 1 - (s + n)) (by omega)
                rw [show k - 1 - (k - 1 - (s + n)) = s + n by omega] at this
                exact this
          · have := n2 0 (by omega)
            rw [show s + 0 = s by omega] at this
            omega
        obtain ⟨n, n1, n2, n3⟩ := hn
        obtain ⟨aL, aB⟩ := c_addL (F := F) (i := xCt b s) (n := n) (s := s) (k := k) (σ := σ) (b := b) (by rw [hc]; omega) (by omega) t1 (by omega) (by omega) n3 n2 cl n1.2.1
        have sc : ∀ r σ', (r = 0 ∨ r = 1) → g_X8_addLetter F (k : Int) (b k) σ = some (r, σ') → g_X8_scan F (k : Int) σ = some (r, σ') := by
          intro r σ' hr ha
          unfold g_X8_scan g_X8_scan_b76
          refine e_mob at0 (e_mob at1 (e_mob (c_bla (by omega)) ?_))
          rw [mb_f cb]
          refine e_t (by decide) (e_mob (c_let (by omega)) ?_)
          rw [mb_t cl]
          refine e_f (by decide) (e_mob (c_let (by omega)) ?_)
          rw [mb_t (pl.mpr cp)]
          refine e_f (by decide) (e_mob ha (e_t ?_ rfl))
          rcases hr with rfl | rfl <;> decide
        by_cases c6 : n < 6
        · obtain ⟨σ', e'⟩ : ∃ y, y = mup (mup σ 16 (xCt b s) 1) 18 (xCt b s) (xPk b s (n + 1)) := ⟨_, rfl⟩
          refine ⟨σ', ⟨fun q q1 q2 q3 q4 => by rw [e', mup_off q4, mup_off q2], fun j _ => by rw [e', mup_off (by decide), mup_off (by decide)]⟩, Or.inl ⟨sc 1 σ' (Or.inr rfl) (by rw [e']; exact aL c6), by rw [xCt_n ns, ← hc, e', mup_off (by decide), mup_off (by decide)], fun s' hs hg => ?_⟩⟩
          by_cases cs : s' = s
          · subst cs
            refine ⟨by rw [e', mup_off (by decide), mup_off (by decide)]; exact t1, t2, Or.inr (Or.inl ⟨n + 1, by omega, fun j hj => ?_, Or.inl (by omega), by rw [e', mup_off (by decide), mup_at rfl rfl], by rw [e', mup_at rfl rfl]⟩)⟩
            by_cases cj : j = n
            · rw [cj, show s' + n = k by omega]; exact cl
            · exact n2 j (by omega)
          · have hs' : s' < k := by
              by_cases c : s' = k
              · rw [c] at hg; exact absurd hg ns
              · omega
            have lt' : s' < s := by
              by_cases c : s < s'
              · exact absurd hg (s4 s' c hs')
              · omega
            have cc := xCt_lt lt' hg
            have T' := hT s' hs' hg
            have T2 : TokC σ b s' (xCt b s') (k + 1) := T'.mv lt' (by omega) s2 (by omega)
            exact T2.same (by rw [e', mup_off (by decide), mup_ne (by omega)]) (by rw [e', mup_off (by decide), mup_off (by decide)]) (by rw [e', mup_ne (by omega), mup_off (by decide)])
        · have n6 : n = 6 := by omega
          obtain ⟨σ', e'⟩ : ∃ y, y = mup (mup σ 16 (xCt b s) 5) 18 (xCt b s) (k : Int) := ⟨_, rfl⟩
          refine ⟨σ', ⟨fun q q1 q2 q3 q4 => by rw [e', mup_off q4, mup_off q2], fun j _ => by rw [e', mup_off (by decide), mup_off (by decide)]⟩, Or.inr ⟨sc 0 σ' (Or.inl rfl) (by rw [e']; exact aB n6), s, s2, by omega, ?_, ⟨by rw [e', mup_off (by decide), mup_at rfl rfl], by rw [e', mup_off (by decide), mup_off (by decide)]; exact t1, by rw [e', mup_at rfl rfl]⟩, fun s' hs hg => ?_, Or.inr (Or.inl ⟨t2, by omega, fun j hj => ?_⟩)⟩⟩
          · rw [e', mup_off (by decide), mup_off (by decide), hc]; omega
          · have cc := xCt_lt hs hg
            have T' := hT s' (by omega) hg
            have T2 : TokC σ b s' (xCt b s') s := T'.cut hs (by omega) s2
            exact T2.same (by rw [e', mup_off (by decide), mup_ne (by omega)]) (by rw [e', mup_off (by decide), mup_off (by decide)]) (by rw [e', mup_ne (by omega), mup_off (by decide)])
          · by_cases cj : j = 6
            · rw [cj, show s + 6 = k by omega]; exact cl
            · exact n2 j (by omega)
      · -- a letter that begins
        have sg : xSg b k := ⟨cb, fun q => cp ⟨q.2.1, q.2.2⟩, fun q => by have := q.1; omega⟩
        have up : ∀ (σ2 : mMem), (∀ i, i < xCt b k → σ2 16 i = σ 16 i ∧ σ2 17 i = σ 17 i ∧ σ2 18 i = σ 18 i) → ∀ s', s' < k → xSg b s' → ∀ k', k ≤ k' → TokC σ2 b s' (xCt b s') k' := fun σ2 e s' hs hg k' hk' => by
          have cc := old s' hs hg
          obtain ⟨e1, e2, e3⟩ := e _ cc
          exact ((hT s' hs hg).mv hs (by omega) sg hk').same e1 e2 e3
        by_cases cd : 0 < k ∧ xDg b (k - 1)
        · -- without a blank
          obtain ⟨σ2, e2⟩ : ∃ y, y = mup (mup (mup (mup σ 16 (xCt b k) 5) 17 (xCt b k) (k : Int)) 18 (xCt b k) (k : Int)) 14 5 ((xCt b k : Int) + 1) := ⟨_, rfl⟩
          obtain ⟨n1, n2, n3, n4, n5, n6⟩ := newS σ2 5 (k : Int) e2
          refine ⟨σ2, n1, Or.inr ⟨?_, k, sg, by omega, n2, ⟨n3, n4, n5⟩, fun s' hs hg => up σ2 n6 s' hs hg k (by omega), Or.inl ⟨rfl, Or.inl cl, cd.1, Or.inr cd.2⟩⟩⟩
          unfold g_X8_scan g_X8_scan_b75 g_X8_scan_b76
          refine e_mob at0 (e_mob at1 (e_mob (c_bla (by omega)) ?_))
          rw [mb_f cb]
          refine e_t (by decide) (e_mob (c_let (by omega)) ?_)
          rw [mb_t cl]
          refine e_f (by decide) (e_mob (c_let (by omega)) ?_)
          rw [mb_f (fun q => cp (pl.mp q))]
          refine e_t (by decide) (e_mob (r := 0) (σ := σ2) ?_ (e_t (by decide) (e_t (by decide) rfl)))
          unfold g_X8_startSolid g_X8_startSolid_b14 g_X8_startSolid_b19 g_X8_startSolid_b32 g_X8_startSolid_b43 g_X8_startSolid_b56
          refine e_mob (c_let (by omega)) ?_
          rw [mb_f (fun q => cp (pl.mp q))]
          refine e_f (by decide) (e_mob (c_dig (by omega)) ?_)
          rw [mb_t (pd.mpr cd)]
          refine e_f (by decide) (e_f (by decide) (e_f (by decide) (e_mob (c_add hc c1600) (e_t (by decide) ?_))))
          rw [← e2]
          exact e_t (by decide) rfl
        · obtain ⟨σ2, e2⟩ : ∃ y, y = mup (mup (mup (mup σ 16 (xCt b k) 1) 17 (xCt b k) (k : Int)) 18 (xCt b k) 0) 14 5 ((xCt b k : Int) + 1) := ⟨_, rfl⟩
          obtain ⟨n1, n2, n3, n4, n5, n6⟩ := newS σ2 1 0 e2
          obtain ⟨aL, -⟩ := c_addL (F := F) (i := xCt b k) (n := 0) (s := k) (k := k) (σ := σ2) (b := b) (by rw [n2]; omega) c1600 n4 (by omega) (by omega) n5 (fun j hj => absurd hj (by omega)) cl (by omega)
          obtain ⟨σ', e'⟩ : ∃ y, y = mup (mup σ2 16 (xCt b k) 1) 18 (xCt b k) (xPk b k (0 + 1)) := ⟨_, rfl⟩
          have f2 : FS σ' σ2 := ⟨fun q q1 q2 q3 q4 => by rw [e', mup_off q4, mup_off q2], fun j _ => by rw [e', mup_off (by decide), mup_off (by decide)]⟩
          refine ⟨σ', f2.tr n1, Or.inl ⟨?_, by rw [xCt_s sg, e', mup_off (by decide), mup_off (by decide), n2]; omega, fun s' hs hg => ?_⟩⟩
          · unfold g_X8_scan g_X8_scan_b75 g_X8_scan_b76
            refine e_mob at0 (e_mob at1 (e_mob (c_bla (by omega)) ?_))
            rw [mb_f cb]
            refine e_t (by decide) (e_mob (c_let (by omega)) ?_)
            rw [mb_t cl]
            refine e_f (by decide) (e_mob (c_let (by omega)) ?_)
            rw [mb_f (fun q => cp (pl.mp q))]
            refine e_t (by decide) (e_mob (r := 1) (σ := σ2) ?_ (e_f (by decide) (e_mob (aL (by decide)) ?_)))
            · unfold g_X8_startSolid g_X8_startSolid_b14 g_X8_startSolid_b19 g_X8_startSolid_b32 g_X8_startSolid_b43 g_X8_startSolid_b56
              refine e_mob (c_let (by omega)) ?_
              rw [mb_f (fun q => cp (pl.mp q))]
              refine e_f (by decide) (e_mob (c_dig (by omega)) ?_)
              rw [mb_f (fun q => cd (pd.mp q))]
              refine e_t (by decide) (e_t (by decide) (e_t (by decide) (e_mob (c_add hc c1600) (e_f (by decide) ?_))))
              rw [← e2]
              exact e_t (by decide) rfl
            · rw [← e']
              exact e_f (by decide) (e_t (by decide) rfl)
          · by_cases cs : s' = k
            · subst cs
              exact ⟨by rw [e', mup_off (by decide), mup_off (by decide)]; exact n4, fun q => by rcases q.2.2 with w | w; exact cp ⟨q.2.1, w⟩; exact cd ⟨q.2.1, w⟩, Or.inr (Or.inl ⟨1, by omega, fun j hj => by rw [show s' + j = s' by omega]; exact cl, Or.inl rfl, by rw [e', mup_off (by decide), mup_at rfl rfl], by rw [e', mup_at rfl rfl]⟩)⟩
            · have cc := old s' (by omega) hg
              exact (up σ2 n6 s' (by omega) hg (k + 1) (by omega)).same (by rw [e', mup_off (by decide), mup_ne (by omega)]) (by rw [e', mup_off (by decide), mup_off (by decide)]) (by rw [e', mup_ne (by omega), mup_off (by decide)])
    · by_cases cg : xDg b k
      · by_cases cp : 0 < k ∧ xDg b (k - 1)
        · -- a digit behind a digit
          have ns : ¬ xSg b k := fun q => q.2.2 ⟨cg, cp.1, cp.2⟩
          obtain ⟨s, s1, s2, s3, s4⟩ := last_st (b := b) k cp.1 (by have := cp.2; omega)
          have rl := run_dg s1 cp.2 s4
          have ls : xDg b s := by have := rl (k - 1 - s) (by omega); rw [show k - 1 - (k - 1 - s) = s by omega] at this; exact this
          have T := hT s s1 s2
          obtain ⟨t1, t2, t3⟩ := T
          have hn : ∃ n, (1 ≤ n ∧ n ≤ 4 ∧ s + n = k) ∧ (∀ j, j < n → xDg b (s + j)) ∧ σ 18 (xCt b s) = xNu b s n := by
            rcases t3 with t3 | ⟨n, n1, n2, n3, n4, n5⟩ | ⟨n, n1, n2, n3, n4, n5⟩
            · exact absurd ls t3.2.1
            · have := n2 0 (by omega)
              rw [show s + 0 = s by omega] at this
              omega
            · refine ⟨n, ⟨n1.1, n1.2.1, ?_⟩, n2, n5⟩
              rcases n3 with e | e
              · exact e
              · by_cases c : s + n = k
                · exact c
                · exfalso
                  apply e
                  have := rl (k - 1 - (s + n)) (by omega)
                  rw [show k - 1 - (k - 1 - (s + n)) = s + n by omega] at this
                  exact this
          obtain ⟨n, n1, n2, n3⟩ := hn
          obtain ⟨aL, aB⟩ := c_addD (F := F) (i := xCt b s) (n := n) (s := s) (k := k) (σ := σ) (b := b) (by rw [hc]; omega) (by omega) t1 (by omega) (by omega) n3 n1.2.1
          have sc : ∀ r σ', (r = 0 ∨ r = 1) → g_X8_addDigit F (k : Int) (b k) σ = some (r, σ') → g_X8_scan F (k : Int) σ = some (r, σ') := by
            intro r σ' hr ha
            unfold g_X8_scan g_X8_scan_b124
            refine e_mob at0 (e_mob at1 (e_mob (c_bla (by omega)) ?_))
            rw [mb_f cb]
            refine e_t (by decide) (e_mob (c_let (by omega)) ?_)
            rw [mb_f cl]
            refine e_t (by decide) (e_mob (c_dig (by omega)) ?_)
            rw [mb_t cg]
            refine e_f (by decide) (e_mob (c_dig (by omega)) ?_)
            rw [mb_t (pd.mpr cp)]
            refine e_f (by decide) (e_mob ha (e_t ?_ rfl))
            rcases hr with rfl | rfl <;> decide
          by_cases c6 : n < 4
          · obtain ⟨σ', e'⟩ : ∃ y, y = mup (mup σ 16 (xCt b s) 3) 18 (xCt b s) (xNu b s (n + 1)) := ⟨_, rfl⟩
            refine ⟨σ', ⟨fun q q1 q2 q3 q4 => by rw [e', mup_off q4, mup_off q2], fun j _ => by rw [e', mup_off (by decide), mup_off (by decide)]⟩, Or.inl ⟨sc 1 σ' (Or.inr rfl) (by rw [e']; exact aL c6), by rw [xCt_n ns, ← hc, e', mup_off (by decide), mup_off (by decide)], fun s' hs hg => ?_⟩⟩
            by_cases cs : s' = s
            · subst cs
              refine ⟨by rw [e', mup_off (by decide), mup_off (by decide)]; exact t1, t2, Or.inr (Or.inr ⟨n + 1, by omega, fun j hj => ?_, Or.inl (by omega), by rw [e', mup_off (by decide), mup_at rfl rfl], by rw [e', mup_at rfl rfl]⟩)⟩
              by_cases cj : j = n
              · rw [cj, show s' + n = k by omega]; exact cg
              · exact n2 j (by omega)
            · have hs' : s' < k := by
                by_cases c : s' = k
                · rw [c] at hg; exact absurd hg ns
                · omega
              have lt' : s' < s := by
                by_cases c : s < s'
                · exact absurd hg (s4 s' c hs')
                · omega
              have cc := xCt_lt lt' hg
              exact ((hT s' hs' hg).mv lt' (by omega) s2 (show s ≤ k + 1 by omega)).same (by rw [e', mup_off (by decide), mup_ne (by omega)]) (by rw [e', mup_off (by decide), mup_off (by decide)]) (by rw [e', mup_ne (by omega), mup_off (by decide)])
          · have n6 : n = 4 := by omega
            obtain ⟨σ', e'⟩ : ∃ y, y = mup (mup σ 16 (xCt b s) 5) 18 (xCt b s) (k : Int) := ⟨_, rfl⟩
            refine ⟨σ', ⟨fun q q1 q2 q3 q4 => by rw [e', mup_off q4, mup_off q2], fun j _ => by rw [e', mup_off (by decide), mup_off (by decide)]⟩, Or.inr ⟨sc 0 σ' (Or.inl rfl) (by rw [e']; exact aB n6), s, s2, by omega, ?_, ⟨by rw [e', mup_off (by decide), mup_at rfl rfl], by rw [e', mup_off (by decide), mup_off (by decide)]; exact t1, by rw [e', mup_at rfl rfl]⟩, fun s' hs hg => ?_, Or.inr (Or.inr ⟨t2, by omega, fun j hj => ?_⟩)⟩⟩
            · rw [e', mup_off (by decide), mup_off (by decide), hc]; omega
            · have cc := xCt_lt hs hg
              exact ((hT s' (by omega) hg).cut hs (by omega) s2).same (by rw [e', mup_off (by decide), mup_ne (by omega)]) (by rw [e', mup_off (by decide), mup_off (by decide)]) (by rw [e', mup_ne (by omega), mup_off (by decide)])
            · by_cases cj : j = 4
              · rw [cj, show s + 4 = k by omega]; exact cg
              · exact n2 j (by omega)
        · -- a digit that begins
          have sg : xSg b k := ⟨cb, fun q => by have := q.1; omega, fun q => cp ⟨q.2.1, q.2.2⟩⟩
          have up : ∀ (σ2 : mMem), (∀ i, i < xCt b k → σ2 16 i = σ 16 i ∧ σ2 17 i = σ 17 i ∧ σ2 18 i = σ 18 i) → ∀ s', s' < k → xSg b s' → ∀ k', k ≤ k' → TokC σ2 b s' (xCt b s') k' := fun σ2 e s' hs hg k' hk' => by
            have cc := old s' hs hg
            obtain ⟨e1, e2, e3⟩ := e _ cc
            exact ((hT s' hs hg).mv hs (by omega) sg hk').same e1 e2 e3
          by_cases cd : 0 < k ∧ xLt b (k - 1)
          · obtain ⟨σ2, e2⟩ : ∃ y, y = mup (mup (mup (mup σ 16 (xCt b k) 5) 17 (xCt b k) (k : Int)) 18 (xCt b k) (k : Int)) 14 5 ((xCt b k : Int) + 1) := ⟨_, rfl⟩
            obtain ⟨n1, n2, n3, n4, n5, n6⟩ := newS σ2 5 (k : Int) e2
            refine ⟨σ2, n1, Or.inr ⟨?_, k, sg, by omega, n2, ⟨n3, n4, n5⟩, fun s' hs hg => up σ2 n6 s' hs hg k (by omega), Or.inl ⟨rfl, Or.inr cg, cd.1, Or.inl cd.2⟩⟩⟩
            unfold g_X8_scan g_X8_scan_b123 g_X8_scan_b124
            refine e_mob at0 (e_mob at1 (e_mob (c_bla (by omega)) ?_))
            rw [mb_f cb]
            refine e_t (by decide) (e_mob (c_let (by omega)) ?_)
            rw [mb_f cl]
            refine e_t (by decide) (e_mob (c_dig (by omega)) ?_)
            rw [mb_t cg]
            refine e_f (by decide) (e_mob (c_dig (by omega)) ?_)
            rw [mb_f (fun q => cp (pd.mp q))]
            refine e_t (by decide) (e_mob (r := 0) (σ := σ2) ?_ (e_t (by decide) (e_t (by decide) rfl)))
            unfold g_X8_startSolid g_X8_startSolid_b14 g_X8_startSolid_b19 g_X8_startSolid_b32 g_X8_startSolid_b43 g_X8_startSolid_b56
            refine e_mob (c_let (by omega)) ?_
            rw [mb_t (pl.mpr cd)]
            refine e_t (by decide) (e_f (by decide) (e_f (by decide) (e_mob (c_add hc c1600) (e_t (by decide) ?_))))
            rw [← e2]
            exact e_t (by decide) rfl
          · obtain ⟨σ2, e2⟩ : ∃ y, y = mup (mup (mup (mup σ 16 (xCt b k) 3) 17 (xCt b k) (k : Int)) 18 (xCt b k) 0) 14 5 ((xCt b k : Int) + 1) := ⟨_, rfl⟩
            obtain ⟨n1, n2, n3, n4, n5, n6⟩ := newS σ2 3 0 e2
            obtain ⟨aL, -⟩ := c_addD (F := F) (i := xCt b k) (n := 0) (s := k) (k := k) (σ := σ2) (b := b) (by rw [n2]; omega) c1600 n4 (by omega) (by omega) n5 (by omega)
            obtain ⟨σ', e'⟩ : ∃ y, y = mup (mup σ2 16 (xCt b k) 3) 18 (xCt b k) (xNu b k (0 + 1)) := ⟨_, rfl⟩
            have f2 : FS σ' σ2 := ⟨fun q q1 q2 q3 q4 => by rw [e', mup_off q4, mup_off q2], fun j _ => by rw [e', mup_off (by decide), mup_off (by decide)]⟩
            refine ⟨σ', f2.tr n1, Or.inl ⟨?_, by rw [xCt_s sg, e', mup_off (by decide), mup_off (by decide), n2]; omega, fun s' hs hg => ?_⟩⟩
            · unfold g_X8_scan g_X8_scan_b123 g_X8_scan_b124
              refine e_mob at0 (e_mob at1 (e_mob (c_bla (by omega)) ?_))
              rw [mb_f cb]
              refine e_t (by decide) (e_mob (c_let (by omega)) ?_)
              rw [mb_f cl]
              refine e_t (by decide) (e_mob (c_dig (by omega)) ?_)
              rw [mb_t cg]
              refine e_f (by decide) (e_mob (c_dig (by omega)) ?_)
              rw [mb_f (fun q => cp (pd.mp q))]
              refine e_t (by decide) (e_mob (r := 1) (σ := σ2) ?_ (e_f (by decide) (e_mob (aL (by decide)) ?_)))
              · unfold g_X8_startSolid g_X8_startSolid_b14 g_X8_startSolid_b19 g_X8_startSolid_b32 g_X8_startSolid_b43 g_X8_startSolid_b56
                refine e_mob (c_let (by omega)) ?_
                rw [mb_f (fun q => cd (pl.mp q))]
                refine e_f (by decide) (e_mob (c_dig (by omega)) ?_)
                rw [mb_f (fun q => cp (pd.mp q))]
                refine e_t (by decide) (e_t (by decide) (e_t (by decide) (e_mob (c_add hc c1600) (e_f (by decide) ?_))))
                rw [← e2]
                exact e_t (by decide) rfl
              · rw [← e']
                exact e_f (by decide) (e_t (by decide) rfl)
            · by_cases cs : s' = k
              · subst cs
                exact ⟨by rw [e', mup_off (by decide), mup_off (by decide)]; exact n4, fun q => by rcases q.2.2 with w | w; exact cd ⟨q.2.1, w⟩; exact cp ⟨q.2.1, w⟩, Or.inr (Or.inr ⟨1, by omega, fun j hj => by rw [show s' + j = s' by omega]; exact cg, Or.inl rfl, by rw [e', mup_off (by decide), mup_at rfl rfl], by rw [e', mup_at rfl rfl]⟩)⟩
              · have cc := old s' (by omega) hg
                exact (up σ2 n6 s' (by omega) hg (k + 1) (by omega)).same (by rw [e', mup_off (by decide), mup_ne (by omega)]) (by rw [e', mup_off (by decide), mup_off (by decide)]) (by rw [e', mup_ne (by omega), mup_off (by decide)])
      · -- a mark
        have sg : xSg b k := ⟨cb, fun q => cl q.1, fun q => cg q.1⟩
        obtain ⟨σ2, e2⟩ : ∃ y, y = mup (mup (mup (mup σ 16 (xCt b k) 4) 17 (xCt b k) (k : Int)) 18 (xCt b k) (b k)) 14 5 ((xCt b k : Int) + 1) := ⟨_, rfl⟩
        obtain ⟨n1, n2, n3, n4, n5, n6⟩ := newS σ2 4 (b k) e2
        refine ⟨σ2, n1, Or.inl ⟨?_, by rw [xCt_s sg, n2]; omega, fun s' hs hg => ?_⟩⟩
        · unfold g_X8_scan
          refine e_mob at0 (e_mob at1 (e_mob (c_bla (by omega)) ?_))
          rw [mb_f cb]
          refine e_t (by decide) (e_mob (c_let (by omega)) ?_)
          rw [mb_f cl]
          refine e_t (by decide) (e_mob (c_dig (by omega)) ?_)
          rw [mb_f cg]
          refine e_t (by decide) (e_mob (c_add hc c1600) ?_)
          rw [← e2]
          exact e_t (by decide) rfl
        · by_cases cs : s' = k
          · subst cs
            exact ⟨n4, fun q => by rcases q.1 with w | w; exact cl w; exact cg w, Or.inl ⟨cl, cg, n3, n5⟩⟩
          · have cc := old s' (by omega) hg
            obtain ⟨e1, e2', e3⟩ := n6 _ cc
            exact ((hT s' (by omega) hg).mv (show s' < k by omega) (by omega) sg (show k ≤ k + 1 by omega)).same e1 e2' e3
