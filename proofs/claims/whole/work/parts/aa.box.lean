/-! LAYER 2: kitchen, a box -/
theorem DdC.rg {σ : mMem} {fk fp : Int} (d : DdC σ fk fp) : (0 ≤ σ 14 7 ∧ σ 14 7 ≤ 4) ∧ 0 ≤ σ 14 9 ∧ σ 14 9 ≤ 2000000000 := by
  rw [d.2.2.2.1, d.2.2.2.2]; omega
theorem c_wordd {F k : Nat} {σ : mMem} {fk fp : Int} (d : DdC σ fk fp) (hk : k < 28) : ∃ σ', g_X8_takeWord F (k : Int) σ = some (0, σ') ∧ FN σ' σ ∧ DdC σ' fk fp := by
  obtain ⟨σ9, q1, q2, q3⟩ := c_refd (F := F) (x := 1) d
  refine ⟨σ9, ?_, q2, q3⟩
  unfold g_X8_takeWord g_X8_takeWord_b13
  refine e_mob (c_isW d.rg (by omega)) ?_
  rw [mb_f (by rw [d.2.2.2.1]; omega)]
  exact e_f (by decide) (e_mob q1 (e_mob (c_nextd q3) rfl))
theorem c_markd {F : Nat} {σ : mMem} {c fk fp : Int} (d : DdC σ fk fp) (hc : 0 ≤ c ∧ c ≤ 255) : ∃ σ', g_X8_takeMark F c σ = some (0, σ') ∧ FN σ' σ ∧ DdC σ' fk fp := by
  obtain ⟨σ9, q1, q2, q3⟩ := c_refd (F := F) (x := 1) d
  refine ⟨σ9, ?_, q2, q3⟩
  unfold g_X8_takeMark g_X8_takeMark_b13
  refine e_mob (c_isM d.rg hc) ?_
  rw [mb_f (by rw [d.2.2.2.1]; omega)]
  exact e_f (by decide) (e_mob q1 (e_mob (c_nextd q3) rfl))
theorem c_numd {F : Nat} {σ : mMem} {x y fk fp : Int} (d : DdC σ fk fp) : ∃ σ', g_X8_takeNumber F x y σ = some (0, σ') ∧ FN σ' σ ∧ DdC σ' fk fp := by
  obtain ⟨σ9, q1, q2, q3⟩ := c_refd (F := F) (x := 1) d
  refine ⟨σ9, ?_, q2, q3⟩
  unfold g_X8_takeNumber g_X8_takeNumber_b37
  rw [d.2.2.2.1]
  refine e_f (by decide) (e_mob q1 (e_let ?_))
  rw [q3.2.2.2.2]
  exact e_mob (c_nextd q3) rfl
theorem some_inj {r r' : Int} {σ σ' : mMem} (h : (some (r, σ) : mRs) = some (r', σ')) : r = r' ∧ σ = σ' := by
  injection h with h
  injection h with h1 h2
  exact ⟨h1, h2⟩
theorem j_nn {F l p i : Nat} {σ τ : mMem} {b : Nat → Int} (hF : 2000 ≤ F) (hb : ∀ j, j < l → 0 ≤ b j ∧ b j ≤ 255) (hm : Mt σ τ b l) (hk : PlK σ τ p i) : ∃ x σ', g_X6_takeNewName F σ = some (x, σ') ∧ FN σ' σ ∧ StC σ' b l ∧ ∃ w τ', g_X12_fresh F τ = some (w, τ') ∧ FR τ' τ ∧ Mt σ' τ' b l ∧ (τ' 86 8 = 0 → NmR x w ∧ τ 86 8 = 0) := by
  obtain ⟨⟨hp, hi, h13, h30⟩, -, ⟨⟨h91, n1, n2⟩, hB, -⟩, -, -⟩ := id hk
  have rg := (hm.st).rg hb
  obtain ⟨n, en⟩ : ∃ n : Nat, σ p 11 = (n : Int) := ⟨(σ p 11).toNat, by omega⟩
  obtain ⟨r, k1, k2, k3⟩ := c_named (F := F) (p := p) (σ := σ) (x := σ 14 9) n (by omega) en n 0 F (by omega) (by omega)
  have hn : g_X5_boxNamed F p (σ 14 9) σ = some (r, σ) := k1
  have head : ∀ X, (if σ 14 7 = 1 then (if r = -1 then (g_X6_takeNewName_b48 F σ) else (mob (g_X8_refuseHere F 2 σ) (fun r4 σ5 => g_X6_takeNewName_b48 F σ5))) else (mob (g_X8_refuseHere F 1 σ) (fun r6 σ7 => g_X6_takeNewName_b48 F σ7))) = X → g_X6_takeNewName F σ = X := by
    intro X hX
    unfold g_X6_takeNewName
    rw [h13, show ((p : Int)).toNat = p by omega, mw_id (z := σ 14 7) (by omega) (by omega), show mw 1 = 1 by decide]
    by_cases c7 : σ 14 7 = 1
    · refine e_t c7 (e_t (by omega) (e_mob hn ?_))
      rw [mw_id (z := r) (by omega) (by omega), show mw (-1) = -1 by decide]
      rw [if_pos c7] at hX
      exact hX
    · rw [if_neg c7] at hX
      exact e_f c7 hX
  have die : ∀ (ρ : mMem) (z : Int), ρ 86 8 = z → (1 ≤ z ∧ z ≤ 6) → g_X12_fresh_b41 F ρ = some (ρ 86 7, ρ) ∧ g_X12_fresh_b69 F ρ = some (ρ 86 7, ρ) := by
    intro ρ z e hz
    have b69 : g_X12_fresh_b69 F ρ = some (ρ 86 7, ρ) := by
      unfold g_X12_fresh_b69 g_X12_fresh_b85
      rw [e]
      exact e_let (e_t (by rw [mw_id (by omega) (by omega)]; omega) rfl)
    refine ⟨?_, b69⟩
    unfold g_X12_fresh_b41
    rw [e]
    exact e_t (by rw [mw_id (by omega) (by omega)]; omega) b69
  have b48 : ∀ (σ1 : mMem) (fk fp : Int), DdC σ1 fk fp → g_X6_takeNewName_b48 F σ1 = some (0, σ1) := by
    intro σ1 fk fp d
    unfold g_X6_takeNewName_b48
    rw [d.2.2.2.2]
    exact e_let (e_mob (c_nextd d) rfl)
  obtain ⟨τ0, l1, l2, l3, l4⟩ := r_lex (F := F) hm
  rcases l4 with ⟨s, c, e0, rs, e8, vw⟩ | ⟨fk, fp, d, x8, x9⟩
  · subst e0
    have rhead : ∀ X, (if ¬ τ0 86 3 = 1 then (g_X12_fresh_b32 F τ0) else (mob (g_X12_isOwn F (τ0 86 7) τ0) (fun r3 σ4 => if mw r3 = 0 then (g_X12_fresh_b41 F σ4) else (g_X12_fresh_b32 F σ4)))) = X → g_X12_fresh F τ0 = X := by
      intro X hX
      have vn := vw.num.2.1
      unfold g_X12_fresh
      refine e_mob l1 ?_
      rw [e8, mw_id (z := τ0 86 3) (by omega) (by omega), show mw 1 = 1 by decide]
      exact e_t (by decide) hX
    by_cases c7 : σ 14 7 = 1
    · have nm : τ0 86 3 = 1 ∧ NmR (σ 14 9) (τ0 86 7) := by
        rcases vw.2.2 with ⟨a1, a2, a3⟩ | ⟨a1, a2, a3, a4⟩ | ⟨j, j1, a1, a2, a3, a4⟩ | ⟨a1, a2, a3, a4⟩ | ⟨a1, a2, a3, a4⟩
        · omega
        · exact ⟨a2, a3⟩
        · omega
        · omega
        · omega
      have rn : g_X12_named F (τ0 86 7) τ0 = some (r, τ0) := k3 i τ0 (τ0 86 7) hi h30 (by rw [← h91, en]) (fun j hj => (hB j (by omega)).1) nm.2
      have own := r_own (F := F) vw nm.1
      rw [mb_f (fun e => e c7)] at own
      have rb : ∀ X, (if mw r = mw (-1) then (g_X12_fresh_b69 F τ0) else (mob (g_X12_blame F 2 (τ0 86 4) τ0) (fun r107 σ108 => g_X12_fresh_b69 F σ108))) = X → g_X12_fresh F τ0 = X := fun X hX => rhead _ (e_f (fun e => e nm.1) (e_mob own (e_t (by decide) (by
        unfold g_X12_fresh_b41
        rw [e8]
        exact e_f (fun e => e rfl) (e_mob rn hX)))))
      by_cases cr : r = -1
      · obtain ⟨σ1, a1, a2, a3, a4⟩ := j_adv (F := F) hF hb c (c.lt (by omega))
        obtain ⟨τ1, y1, y2, y3⟩ := a4 τ0 hm
        have y8 : τ1 86 8 = 0 := by rw [y2.2 8 (by decide) (by decide) (by decide) (by decide) (by decide) (by decide)]; exact e8
        refine ⟨σ 14 9, σ1, head _ ((if_pos c7).trans (e_t cr ?_)), a2, a3, τ0 86 7, τ1, rb _ (e_t (by rw [cr]) ?_), y2.fr, y3, fun e => ⟨nm.2, e8⟩⟩
        · unfold g_X6_takeNewName_b48
          exact e_let (e_mob a1 rfl)
        · unfold g_X12_fresh_b69 g_X12_fresh_b85
          rw [e8]
          exact e_let (e_f (fun e => e rfl) (e_mob y1 rfl))
      · obtain ⟨σ1, a1, a2, a3⟩ := c_ref (F := F) (x := 2) c (by decide) c.le
        obtain ⟨τ1, y1, y2, y3, y4⟩ := r_die (F := F) hm c a3
        refine ⟨0, σ1, head _ ((if_pos c7).trans (e_f cr (e_mob a1 (b48 _ _ _ a3)))), a2, Or.inr ⟨2, _, a3⟩, τ1 86 7, τ1, rb _ (e_f ?_ (e_mob y1 (die τ1 2 y4 (by decide)).2)), y2, y3, fun e => absurd e (by rw [y4]; decide)⟩
        rw [mw_id (z := r) (by omega) (by omega), show mw (-1) = -1 by decide]; exact cr
    · obtain ⟨σ1, a1, a2, a3⟩ := c_ref (F := F) (x := 1) c (by decide) c.le
      obtain ⟨τ1, y1, y2, y3, y4⟩ := r_die (F := F) hm c a3
      have b32 : g_X12_fresh_b32 F τ0 = some (τ1 86 7, τ1) := by
        unfold g_X12_fresh_b32
        exact e_mob y1 (die τ1 1 y4 (by decide)).1
      refine ⟨0, σ1, head _ ((if_neg c7).trans (e_mob a1 (b48 _ _ _ a3))), a2, Or.inr ⟨1, _, a3⟩, τ1 86 7, τ1, rhead _ ?_, y2, y3, fun e => absurd e (by rw [y4]; decide)⟩
      by_cases c3 : τ0 86 3 = 1
      · have own := r_own (F := F) vw c3
        rw [mb_t c7] at own
        exact e_f (fun e => e c3) (e_mob own (e_f (by decide) b32))
      · exact e_t c3 b32
  · obtain ⟨σ1, a1, a2, a3⟩ := c_refd (F := F) (x := 1) d
    have dk := d.1
    have d7 := d.2.2.2.1
    refine ⟨0, σ1, head _ ((if_neg (by omega)).trans (e_mob a1 (b48 _ _ _ a3))), a2, Or.inr ⟨fk, fp, a3⟩, 0, τ0, ?_, l2, ⟨l3.1, Or.inr ⟨fk, fp, a3, Or.inl ⟨x8, x9⟩⟩⟩, fun e => by omega⟩
    unfold g_X12_fresh
    refine e_mob l1 ?_
    rw [x8]
    exact e_f (by rw [mw_id (by omega) (by omega)]; omega) rfl
/-- the class adds a box -/
theorem c_addB {F p n : Nat} {σ : mMem} {x c r w : Int} (hn : n < 6) (h11 : σ p 11 = (n : Int)) : ∃ σ', g_X5_addBox F p x c r w σ = some (0, σ') ∧ (∀ q, q ≠ p → q ≠ p + 2 → q ≠ p + 3 → σ' q = σ q) ∧ (∀ j, j ≠ 11 → σ' p j = σ p j) ∧ σ' p 11 = (n : Int) + 1 ∧ σ' (p + 2) n = x ∧ (∀ j, j ≠ n → σ' (p + 2) j = σ (p + 2) j) ∧ (σ' (p + 3) (10 * n) = c ∧ σ' (p + 3) (10 * n + 1) = r ∧ σ' (p + 3) (10 * n + 2) = w ∧ σ' (p + 3) (10 * n + 5) = 1 ∧ σ' (p + 3) (10 * n + 6) = 1) ∧ ∀ j, j ≠ 10 * n → j ≠ 10 * n + 1 → j ≠ 10 * n + 2 → j ≠ 10 * n + 5 → j ≠ 10 * n + 6 → σ' (p + 3) j = σ (p + 3) j := by
  obtain ⟨σ0, e0⟩ : ∃ q, q = mup (mup σ (p + 2) n x) p 11 ((n : Int) + 1) := ⟨_, rfl⟩
  have v0 : σ0 p 11 = (n : Int) + 1 := by rw [e0, mup_at rfl rfl]
  have st : ∀ (ρ : mMem) (f : Nat) (v : Int), ρ p 11 = (n : Int) + 1 → f < 10 → g_X5_setStart F p (ρ p 11 - 1) (f : Int) v ρ = some (0, mup ρ (p + 3) (10 * n + f) v) := by
    intro ρ f v e hf
    rw [e, show (n : Int) + 1 - 1 = (n : Int) by omega]
    exact c_setS (by omega) (by omega) hf
  obtain ⟨σ1, e1⟩ : ∃ q, q = mup σ0 (p + 3) (10 * n) c := ⟨_, rfl⟩
  obtain ⟨σ2, e2⟩ : ∃ q, q = mup σ1 (p + 3) (10 * n + 1) r := ⟨_, rfl⟩
  obtain ⟨σ3, e3⟩ : ∃ q, q = mup σ2 (p + 3) (10 * n + 2) w := ⟨_, rfl⟩
  obtain ⟨σ4, e4⟩ : ∃ q, q = mup σ3 (p + 3) (10 * n + 5) 1 := ⟨_, rfl⟩
  obtain ⟨σ5, e5⟩ : ∃ q, q = mup σ4 (p + 3) (10 * n + 6) 1 := ⟨_, rfl⟩
  have v1 : σ1 p 11 = (n : Int) + 1 := by rw [e1, mup_off (by omega)]; exact v0
  have v2 : σ2 p 11 = (n : Int) + 1 := by rw [e2, mup_off (by omega)]; exact v1
  have v3 : σ3 p 11 = (n : Int) + 1 := by rw [e3, mup_off (by omega)]; exact v2
  have v4 : σ4 p 11 = (n : Int) + 1 := by rw [e4, mup_off (by omega)]; exact v3
  have o5 : ∀ q, q ≠ p + 3 → σ5 q = σ0 q := fun q hq => by rw [e5, mup_off hq, e4, mup_off hq, e3, mup_off hq, e2, mup_off hq, e1, mup_off hq]
  refine ⟨σ5, ?_, fun q q1 q2 q3 => by rw [o5 q q3, e0, mup_off q1, mup_off q2], fun j hj => by rw [o5 p (by omega), e0, mup_ne (by omega), mup_off (by omega)], by rw [o5 p (by omega)]; exact v0, by rw [o5 _ (by omega), e0, mup_off (by omega), mup_at rfl rfl], fun j hj => by rw [o5 _ (by omega), e0, mup_off (by omega), mup_ne (by omega)], ⟨?_, ?_, ?_, ?_, ?_⟩, fun j j1 j2 j3 j4 j5 => ?_⟩
  · unfold g_X5_addBox g_X5_addBox_b16
    rw [h11, mwN (i := n) (by omega)]
    refine e_f (by rw [mw_id (by omega) (by omega)]; omega) (e_t (by rw [mw_id (by omega) (by omega), mw_id (z := 6) (by decide) (by decide)]; omega) (e_t (mwR (by omega) (by decide)) (e_mem ?_)))
    rw [mup_off (q := p) (by omega), h11, ← e0]
    refine e_mem (e_mob (st σ0 0 c v0 (by decide)) ?_)
    rw [show 10 * n + 0 = 10 * n by omega, ← e1]
    refine e_mob (st σ1 1 r v1 (by decide)) ?_
    rw [← e2]
    refine e_mob (st σ2 2 w v2 (by decide)) ?_
    rw [← e3]
    refine e_mob (st σ3 5 1 v3 (by decide)) ?_
    rw [← e4]
    refine e_mob (st σ4 6 1 v4 (by decide)) ?_
    rw [← e5]
  · rw [e5, mup_ne (by omega), e4, mup_ne (by omega), e3, mup_ne (by omega), e2, mup_ne (by omega), e1, mup_at rfl rfl]
  · rw [e5, mup_ne (by omega), e4, mup_ne (by omega), e3, mup_ne (by omega), e2, mup_at rfl rfl]
  · rw [e5, mup_ne (by omega), e4, mup_ne (by omega), e3, mup_at rfl rfl]
  · rw [e5, mup_ne (by omega), e4, mup_at rfl rfl]
  · rw [e5, mup_at rfl rfl]
  · rw [e5, mup_ne (by omega), e4, mup_ne (by omega), e3, mup_ne (by omega), e2, mup_ne (by omega), e1, mup_ne (by omega), e0, mup_off (by omega), mup_off (by omega)]
theorem xWho_no {A : Nat → Nat → Int} {c r : Int} : ∀ n : Nat, xWho A c r n = -1 ↔ ∀ k, k < n → ¬ (A k 0 = c ∧ A k 1 = r)
  | 0 => ⟨fun _ k hk => by omega, fun _ => rfl⟩
  | n + 1 => by
    have ih := xWho_no (A := A) (c := c) (r := r) n
    have rg := xWho_rng (A := A) (c := c) (r := r) n
    constructor
    · intro h k hk
      unfold xWho at h
      by_cases c1 : xWho A c r n = -1
      · rw [if_neg (fun e => e c1)] at h
        by_cases c2 : A n 0 = c ∧ A n 1 = r
        · rw [if_pos c2] at h; omega
        · by_cases ek : k = n
          · rw [ek]; exact c2
          · exact ih.mp c1 k (by omega)
      · rw [if_pos c1] at h
        exact absurd h c1
    · intro h
      have c1 := ih.mpr (fun k hk => h k (by omega))
      exact xWho_miss c1 (h n (by omega))
/-- the reference looks whether a box stands there -/
theorem r_bx {F i n : Nat} {x1 c y r : Int} (hi : i = 0 ∨ i = 1) (hn : n ≤ 6) (hc : 0 ≤ c ∧ c ≤ 10000) (hr : 0 ≤ r ∧ r ≤ 10000) : ∀ (d k fuel : Nat) (τ : mMem), d + k = n → d < fuel → τ 86 30 = (i : Int) → τ 91 i = (n : Int) → τ 86 8 = 0 → (∀ j, j < n → 0 ≤ τ 92 (6 * i + j) ∧ τ 92 (6 * i + j) ≤ 80) → ((∀ j, k ≤ j → j < n → ¬ τ 92 (6 * i + j) = 9 * r + c) → g_X12_boxing_h109 F fuel x1 c y r (k : Int) τ = g_X12_boxing_b167 F x1 c r τ) ∧ (¬ (∀ j, k ≤ j → j < n → ¬ τ 92 (6 * i + j) = 9 * r + c) → g_X12_boxing_h109 F fuel x1 c y r (k : Int) τ = g_X12_boxing_b167 F x1 c r (mup (mup τ 86 8 4) 86 9 y))
  | 0, k, fuel + 1, τ, h1, _, h30, h91, _, _ => by
    refine ⟨fun _ => ?_, fun h => absurd (fun j j1 j2 => by omega) h⟩
    conv => lhs; unfold g_X12_boxing_h109
    rw [h30, mwN (i := i) (by omega), h91]
    exact e_t (mwR (by omega) (by decide)) (e_t (by rw [mw_id (by omega) (by omega), mw_id (by omega) (by omega)]; omega) rfl)
  | d + 1, k, fuel + 1, τ, h1, h2, h30, h91, e8, hv => by
    have hvk := hv k (by omega)
    have head : ∀ X, (if ¬ τ 92 (6 * i + k) = 9 * r + c then (g_X12_boxing_h109 F fuel x1 c y r ((k + 1 : Nat) : Int) τ) else (g_X12_boxing_h109 F fuel x1 c y r ((k + 1 : Nat) : Int) (mup (mup τ 86 8 4) 86 9 y))) = X → g_X12_boxing_h109 F (fuel + 1) x1 c y r (k : Int) τ = X := by
      intro X hX
      conv => lhs; unfold g_X12_boxing_h109
      unfold g_X12_boxing_b161
      rw [h30, mwN (i := i) (by omega), h91, e8, show 6 * (i : Int) + (k : Int) = ((6 * i + k : Nat) : Int) by omega, mwN (i := 6 * i + k) (by omega), mw_id (z := τ 92 (6 * i + k)) (by omega) (by omega), mw_id (z := 9 * r + c) (by omega) (by omega), show (k : Int) + 1 = ((k + 1 : Nat) : Int) by omega]
      refine e_t (mwR (by omega) (by decide)) (e_f (by rw [mw_id (by omega) (by omega), mw_id (by omega) (by omega)]; omega) (e_f (fun e => e rfl) (e_t (mwR (by omega) (by decide)) ?_)))
      by_cases ce : τ 92 (6 * i + k) = 9 * r + c
      · rw [if_neg (fun e => e ce)] at hX
        exact e_f (fun e => e ce) (e_mob (r_bl e8) hX)
      · rw [if_pos ce] at hX
        exact e_t ce hX
    obtain ⟨ih1, ih2⟩ := r_bx (F := F) (x1 := x1) (y := y) hi hn hc hr d (k + 1) fuel τ (by omega) (by omega) h30 h91 e8 hv
    by_cases ce : τ 92 (6 * i + k) = 9 * r + c
    · refine ⟨fun h => absurd ce (h k (by omega) (by omega)), fun _ => head _ (e_f (fun e => e ce) ?_)⟩
      obtain ⟨f, ef⟩ : ∃ f, fuel = f + 1 := ⟨fuel - 1, by omega⟩
      rw [ef]
      conv => lhs; unfold g_X12_boxing_h109
      have m30 : mup (mup τ 86 8 4) 86 9 y 86 30 = (i : Int) := by rw [mup_ne (by decide), mup_ne (by decide)]; exact h30
      have m91 : mup (mup τ 86 8 4) 86 9 y 91 i = (n : Int) := by rw [mup_off (by decide), mup_off (by decide)]; exact h91
      have m8 : mup (mup τ 86 8 4) 86 9 y 86 8 = 4 := by rw [mup_ne (by decide), mup_at rfl rfl]
      rw [m30, mwN (i := i) (by omega), m91, m8]
      refine e_t (mwR (by omega) (by decide)) ?_
      by_cases ck : mw ((n : Nat) : Int) ≤ mw ((k + 1 : Nat) : Int)
      · exact e_t ck rfl
      · exact e_f ck (e_t (by decide) rfl)
    · constructor
      · intro h
        exact head _ (e_t ce (ih1 (fun j j1 j2 => h j (by omega) j2)))
      · intro h
        refine head _ (e_t ce (ih2 (fun h2 => h (fun j j1 j2 => ?_))))
        by_cases ej : j = k
        · rw [ej]; exact ce
        · exact h2 j (by omega) j2
