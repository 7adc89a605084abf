/-! LAYER 2: kitchen, the eyes, the bias -/
theorem j_bn {F l p i : Nat} {σ τ : mMem} {b : Nat → Int} (hF : 2000 ≤ F) (hb : ∀ j, j < l → 0 ≤ b j ∧ b j ≤ 255) (hm : Mt σ τ b l) (hk : PlK σ τ p i) : ∃ r σ', g_X6_takeBoxName F σ = some (r, σ') ∧ FN σ' σ ∧ StC σ' b l ∧ (-1 ≤ r ∧ r < σ p 11) ∧ ∃ r' τ', g_X12_known F τ = some (r', τ') ∧ FR τ' τ ∧ Mt σ' τ' b l ∧ (τ' 86 8 = 0 → r' = r ∧ 0 ≤ r ∧ τ 86 8 = 0) := by
  obtain ⟨⟨hp, hi, h13, h30⟩, -, ⟨⟨h91, n1, n2⟩, hB, -⟩, -, -⟩ := id hk
  have rg := (hm.st).rg hb
  obtain ⟨n, en⟩ : ∃ n : Nat, σ p 11 = (n : Int) := ⟨(σ p 11).toNat, by omega⟩
  obtain ⟨r, k1, k2, k3⟩ := c_named (F := F) (p := p) (σ := σ) (x := σ 14 9) n (by omega) en n 0 F (by omega) (by omega)
  have hn : g_X5_boxNamed F p (σ 14 9) σ = some (r, σ) := k1
  have head : ∀ X, (if σ 14 7 = 1 then (if ¬ r = -1 then (g_X6_takeBoxName_b50 F r σ) else (mob (g_X8_refuseHere F 3 σ) (fun r4 σ5 => g_X6_takeBoxName_b50 F r σ5))) else (mob (g_X8_refuseHere F 1 σ) (fun r6 σ7 => g_X6_takeBoxName_b50 F r σ7))) = X → g_X6_takeBoxName F σ = X := by
    intro X hX
    unfold g_X6_takeBoxName
    rw [h13, show ((p : Int)).toNat = p by omega]
    refine e_t (by omega) (e_mob hn ?_)
    rw [mw_id (z := σ 14 7) (by omega) (by omega), mw_id (z := r) (by omega) (by omega), show mw (-1) = -1 by decide, show mw 1 = 1 by decide]
    exact hX
  have die : ∀ (ρ : mMem) (z : Int), ρ 86 8 = z → (1 ≤ z ∧ z ≤ 6) → g_X12_known_b41 F ρ = some (0, ρ) ∧ ∀ t, g_X12_known_b82 F t ρ = some (0, ρ) := by
    intro ρ z e hz
    have b82 : ∀ t, g_X12_known_b82 F t ρ = some (0, ρ) := by
      intro t
      unfold g_X12_known_b82 g_X12_known_b93 g_X12_known_b105
      rw [e]
      exact e_t (by rw [mw_id (by omega) (by omega)]; omega) (e_f (by rw [mw_id (by omega) (by omega)]; omega) rfl)
    refine ⟨?_, b82⟩
    unfold g_X12_known_b41 g_X12_known_b60
    rw [e]
    exact e_f (by rw [mw_id (by omega) (by omega)]; omega) (e_t (by rw [mw_id (by omega) (by omega)]; omega) (b82 0))
  obtain ⟨τ0, l1, l2, l3, l4⟩ := r_lex (F := F) hm
  rcases l4 with ⟨s, c, e0, rs, e8, vw⟩ | ⟨fk, fp, d, x8, x9⟩
  · subst e0
    have rhead : ∀ X, (if ¬ τ0 86 3 = 1 then (g_X12_known_b32 F τ0) else (mob (g_X12_isOwn F (τ0 86 7) τ0) (fun r3 σ4 => if mw r3 = 0 then (g_X12_known_b41 F σ4) else (g_X12_known_b32 F σ4)))) = X → g_X12_known F τ0 = X := by
      intro X hX
      have vn := vw.num.2.1
      unfold g_X12_known
      refine e_mob l1 ?_
      rw [e8, mw_id (z := τ0 86 3) (by omega) (by omega), show mw 1 = 1 by decide]
      exact e_t (by decide) hX
    by_cases c7 : σ 14 7 = 1
    · have nm : τ0 86 3 = 1 ∧ NmR (σ 14 9) (τ0 86 7) := by
        rcases vw.2.2 with ⟨a1, a2, a3⟩ | ⟨a1, a2, a3, a4⟩ | ⟨j, j1, a1, a2, a3, a4⟩ | ⟨a1, a2, a3, a4⟩ | ⟨a1, a2, a3, a4⟩
        · omega
        · exact ⟨a2, a3⟩
        · omega
        · omega
        · omega
      have rn : g_X12_named F (τ0 86 7) τ0 = some (r, τ0) := k3 i τ0 (τ0 86 7) hi h30 (by rw [← h91, en]) (fun j hj => (hB j (by omega)).1) nm.2
      have own := r_own (F := F) vw nm.1
      rw [mb_f (fun e => e c7)] at own
      have rb : ∀ X, g_X12_known_b60 F r τ0 = X → g_X12_known F τ0 = X := fun X hX => rhead _ (e_f (fun e => e nm.1) (e_mob own (e_t (by decide) (by
        unfold g_X12_known_b41
        rw [e8]
        exact e_t (by decide) (e_mob rn hX)))))
      by_cases cr : r = -1
      · obtain ⟨σ1, a1, a2, a3⟩ := c_ref (F := F) (x := 3) c (by decide) c.le
        obtain ⟨τ1, y1, y2, y3, y4⟩ := r_die (F := F) hm c a3
        refine ⟨r, σ1, head _ ((if_pos c7).trans (e_f (fun e => e cr) (e_mob a1 ?_))), a2, Or.inr ⟨3, _, a3⟩, by omega, 0, τ1, rb _ ?_, y2, y3, fun e => absurd e (by rw [y4]; decide)⟩
        · unfold g_X6_takeBoxName_b50
          exact e_mob (c_nextd a3) rfl
        · unfold g_X12_known_b60
          rw [e8, cr]
          exact e_f (fun e => e rfl) (e_f (fun e => e rfl) (e_mob y1 ((die τ1 3 y4 (by decide)).2 _)))
      · obtain ⟨σ1, a1, a2, a3, a4⟩ := j_adv (F := F) hF hb c (c.lt (by omega))
        obtain ⟨τ1, y1, y2, y3⟩ := a4 τ0 hm
        have y8 : τ1 86 8 = 0 := by rw [y2.2 8 (by decide) (by decide) (by decide) (by decide) (by decide) (by decide)]; exact e8
        refine ⟨r, σ1, head _ ((if_pos c7).trans (e_t cr ?_)), a2, a3, by omega, r, τ1, rb _ ?_, y2.fr, y3, fun e => ⟨rfl, by omega, e8⟩⟩
        · unfold g_X6_takeBoxName_b50
          exact e_mob a1 rfl
        · unfold g_X12_known_b60 g_X12_known_b82 g_X12_known_b93 g_X12_known_b105
          rw [e8]
          refine e_f (fun e => e rfl) (e_t (by rw [mw_id (z := r) (by omega) (by omega), show mw (-1) = -1 by decide]; exact cr) (e_f (fun e => e rfl) (e_mob y1 ?_)))
          rw [y8]
          exact e_t (by decide) rfl
    · obtain ⟨σ1, a1, a2, a3⟩ := c_ref (F := F) (x := 1) c (by decide) c.le
      obtain ⟨τ1, y1, y2, y3, y4⟩ := r_die (F := F) hm c a3
      have b32 : g_X12_known_b32 F τ0 = some (0, τ1) := by
        unfold g_X12_known_b32
        exact e_mob y1 (die τ1 1 y4 (by decide)).1
      refine ⟨r, σ1, head _ ((if_neg c7).trans (e_mob a1 ?_)), a2, Or.inr ⟨1, _, a3⟩, by omega, 0, τ1, rhead _ ?_, y2, y3, fun e => absurd e (by rw [y4]; decide)⟩
      · unfold g_X6_takeBoxName_b50
        exact e_mob (c_nextd a3) rfl
      · by_cases c3 : τ0 86 3 = 1
        · have own := r_own (F := F) vw c3
          rw [mb_t c7] at own
          exact e_f (fun e => e c3) (e_mob own (e_f (by decide) b32))
        · exact e_t c3 b32
  · obtain ⟨σ1, a1, a2, a3⟩ := c_refd (F := F) (x := 1) d
    have dk := d.1
    have d7 := d.2.2.2.1
    refine ⟨r, σ1, head _ ((if_neg (by omega)).trans (e_mob a1 ?_)), a2, Or.inr ⟨fk, fp, a3⟩, by omega, 0, τ0, ?_, l2, ⟨l3.1, Or.inr ⟨fk, fp, a3, Or.inl ⟨x8, x9⟩⟩⟩, fun e => by omega⟩
    · unfold g_X6_takeBoxName_b50
      exact e_mob (c_nextd a3) rfl
    · unfold g_X12_known
      refine e_mob l1 ?_
      rw [x8]
      exact e_f (by rw [mw_id (by omega) (by omega)]; omega) rfl
theorem c_setS {F p r f : Nat} {σ : mMem} {v : Int} (h11 : 0 ≤ σ p 11 ∧ σ p 11 ≤ 6) (hr : (r : Int) < σ p 11) (hf : f < 10) : g_X5_setStart F p (r : Int) (f : Int) v σ = some (0, mup σ (p + 3) (10 * r + f) v) := by
  unfold g_X5_setStart g_X5_setStart_b39
  refine e_let (e_mob (zc_hasBox (by unfold i32; omega) h11) ?_)
  rw [mb_t (by omega), show (r : Int) * 10 + (f : Int) = ((10 * r + f : Nat) : Int) by omega, mwN (i := 10 * r + f) (by omega)]
  exact e_f (by decide) (e_f (by rw [mw_id (by omega) (by omega)]; omega) (e_f (by rw [mw_id (z := 60) (by decide) (by decide), mw_id (by omega) (by omega)]; omega) (e_t (mwR (by omega) (by decide)) (e_mem rfl))))
theorem c_setN {F p : Nat} {σ : mMem} {f v : Int} (h11 : 0 ≤ σ p 11 ∧ σ p 11 ≤ 6) : g_X5_setStart F p (-1) f v σ = some (0, σ) := by
  unfold g_X5_setStart g_X5_setStart_b39
  refine e_let (e_mob (zc_hasBox (by unfold i32; omega) h11) ?_)
  rw [mb_f (by omega)]
  exact e_t (by decide) rfl
theorem BsK.set {σ τ : mMem} {p i r f : Nat} {v hi : Int} (h : BsK σ τ p i) (hr : (r : Int) < σ p 11) (hf : (f = 5 ∧ hi = 2) ∨ (f = 6 ∧ hi = 3) ∨ (f = 7 ∧ hi = 9)) (hv : 0 ≤ v ∧ v ≤ hi) : BsK (mup σ (p + 3) (10 * r + f) v) (mup τ (89 + f) (6 * i + r) v) p i := by
  obtain ⟨h1, h2, h3⟩ := h
  have op : ∀ q, q ≠ p + 3 → mup σ (p + 3) (10 * r + f) v q = σ q := fun q hq => mup_off hq
  have ot : ∀ q, q ≠ 89 + f → mup τ (89 + f) (6 * i + r) v q = τ q := fun q hq => mup_off hq
  have o3 : ∀ j, j ≠ 10 * r + f → mup σ (p + 3) (10 * r + f) v (p + 3) j = σ (p + 3) j := fun j hj => mup_ne (by omega)
  refine ⟨by rw [op p (by omega), ot 91 (by omega)]; exact h1, fun k hk => ?_, fun k g k1 k2 k3 => ?_⟩
  · rw [op p (by omega)] at hk
    obtain ⟨q1, q2, q3, q4, q5, q6, q7, q8, q9⟩ := h2 k hk
    refine ⟨by rw [op (p + 2) (by omega), ot 102 (by omega)]; exact q1, by rw [ot 92 (by omega), o3 _ (by omega), o3 _ (by omega)]; exact q2, by rw [op p (by omega), o3 _ (by omega), o3 _ (by omega)]; exact q3, by rw [ot 93 (by omega), o3 _ (by omega)]; exact q4, ?_, ?_, ?_, by rw [o3 _ (by omega)]; exact q8, by rw [o3 _ (by omega)]; exact q9⟩
    · by_cases e : f = 5 ∧ k = r
      · obtain ⟨e1, e2⟩ := e
        subst e1; subst e2
        rw [mup_at rfl rfl, mup_at rfl rfl]
        exact ⟨rfl, by omega⟩
      · rw [o3 _ (by omega), show mup τ (89 + f) (6 * i + r) v 94 (6 * i + k) = τ 94 (6 * i + k) from mup_ne (by omega)]; exact q5
    · by_cases e : f = 6 ∧ k = r
      · obtain ⟨e1, e2⟩ := e
        subst e1; subst e2
        rw [mup_at rfl rfl, mup_at rfl rfl]
        exact ⟨rfl, by omega⟩
      · rw [o3 _ (by omega), show mup τ (89 + f) (6 * i + r) v 95 (6 * i + k) = τ 95 (6 * i + k) from mup_ne (by omega)]; exact q6
    · by_cases e : f = 7 ∧ k = r
      · obtain ⟨e1, e2⟩ := e
        subst e1; subst e2
        rw [mup_at rfl rfl, mup_at rfl rfl]
        exact ⟨rfl, by omega⟩
      · rw [o3 _ (by omega), show mup τ (89 + f) (6 * i + r) v 96 (6 * i + k) = τ 96 (6 * i + k) from mup_ne (by omega)]; exact q7
  · rw [op p (by omega)] at k1
    rw [o3 _ (by omega)]
    exact h3 k g k1 k2 k3
theorem PlK.set {σ τ : mMem} {p i r f : Nat} {v hi : Int} (h : PlK σ τ p i) (hr : (r : Int) < σ p 11) (hf : (f = 5 ∧ hi = 2) ∨ (f = 6 ∧ hi = 3) ∨ (f = 7 ∧ hi = 9)) (hv : 0 ≤ v ∧ v ≤ hi) : PlK (mup σ (p + 3) (10 * r + f) v) (mup τ (89 + f) (6 * i + r) v) p i := by
  obtain ⟨k1, k2, k3, k4, k5⟩ := h
  have hp := k1.1
  have op : ∀ q, q ≠ p + 3 → mup σ (p + 3) (10 * r + f) v q = σ q := fun q hq => mup_off hq
  have ot : ∀ q, q ≠ 89 + f → mup τ (89 + f) (6 * i + r) v q = τ q := fun q hq => mup_off hq
  exact ⟨⟨k1.1, k1.2.1, by rw [op 13 (by omega)]; exact k1.2.2.1, by rw [ot 86 (by omega)]; exact k1.2.2.2⟩, k2.cg (by rw [op p (by omega)]) (by rw [op p (by omega)]) (op _ (by omega)) (fun q _ _ => ot q (by omega)), k3.set hr hf hv, k4.cg (fun j _ _ => by rw [op p (by omega)]) (ot 97 (by omega)), k5.cg (fun j _ _ => by rw [op p (by omega)]) (op _ (by omega)) (by rw [ot 86 (by omega)]) (fun q _ _ => ot q (by omega))⟩
theorem PlK.n11 {σ τ : mMem} {p i : Nat} (h : PlK σ τ p i) : 0 ≤ σ p 11 ∧ σ p 11 ≤ 6 := h.2.2.1.1.2
/-- a start, or none -/
theorem c_setR {F p f : Nat} {σ : mMem} {r v : Int} (h11 : 0 ≤ σ p 11 ∧ σ p 11 ≤ 6) (hr : -1 ≤ r ∧ r < σ p 11) (hf : f < 10) : ∃ σ', g_X5_setStart F p r (f : Int) v σ = some (0, σ') ∧ (∀ q, q ≠ p + 3 → σ' q = σ q) ∧ (0 ≤ r → σ' = mup σ (p + 3) (10 * r.toNat + f) v) := by
  by_cases c : r = -1
  · rw [c]
    exact ⟨σ, c_setN h11, fun _ _ => rfl, fun h => by omega⟩
  · obtain ⟨n, e⟩ : ∃ n : Nat, r = (n : Int) := ⟨r.toNat, by omega⟩
    rw [e] at hr ⊢
    exact ⟨_, c_setS h11 hr.2 hf, fun q hq => mup_off hq, fun _ => by rw [show ((n : Int)).toNat = n by omega]⟩
theorem j_bias {F l p i s : Nat} {σ τ : mMem} {b : Nat → Int} (hF : 2000 ≤ F) (hb : ∀ j, j < l → 0 ≤ b j ∧ b j ≤ 255) (c : CTk σ b l s) (hs : s < l) (hm : Mt σ τ b l) (hk : PlK σ τ p i) : ∃ σ' τ', g_X6_readBias F σ = some (0, σ') ∧ g_X12_biasing F τ = some (0, τ') ∧ Sj σ τ σ' τ' b l p i := by
  obtain ⟨hp, hi, h13, h30⟩ := hk.1
  have np : p ≠ 14 := by omega
  obtain ⟨σ1, a1, a2, a3, a4⟩ := j_adv (F := F) hF hb c hs
  obtain ⟨τ1, y1, y2, y3, y4⟩ := r_cnt (F := F) c a4 τ hm
  have k1 : PlK σ1 τ1 p i := hk.fn a2 y2
  obtain ⟨r, σ2, b1, b2, b3, b4, r', τ2, z1, z2, z3, z4⟩ := j_bn (F := F) hF hb y3 k1
  have f2 : FN σ2 σ := b2.tr a2
  have g2 : FR τ2 τ := z2.tr y2
  obtain ⟨v, σ3, d1, d2, d3, d4, d5, d6⟩ := j_num (F := F) (x := 0) (y := 9) hF hb (by decide) (by decide) b3
  obtain ⟨v', τ3, v1, v2, v3, v4⟩ := d6 τ2 9 z3 (fun _ => rfl)
  have f3 : FN σ3 σ := d2.tr f2
  have g3 : FR τ3 τ := v2.tr g2
  have k3 : PlK σ3 τ3 p i := hk.fn f3 g3
  have r3 : -1 ≤ r ∧ r < σ3 p 11 := by rw [f3.1 p np, ← a2.1 p np]; exact b4
  obtain ⟨σ4, e1, e2, e3⟩ := c_setR (F := F) (f := 7) (v := v) k3.n11 r3 (by decide)
  have keep : ∀ q, q = 1 ∨ (14 ≤ q ∧ q ≤ 18) → σ4 q = σ3 q := fun q hq => e2 q (by omega)
  have cls : g_X6_readBias F σ = some (0, σ4) := by
    unfold g_X6_readBias
    refine e_mob a1 (e_mob b1 ?_)
    rw [show σ2 13 2 = (p : Int) by rw [f2.1 13 (by decide)]; exact h13, show ((p : Int)).toNat = p by omega]
    exact e_t (by omega) (e_mob d1 (e_mob e1 rfl))
  have pc : FPc σ4 σ p := fun q q1 q2 q3 => (e2 q (by omega)).trans (f3.1 q q1)
  have head : ∀ X, (if ¬ mw (τ3 86 8) = 0 then (g_X12_biasing_b44 F τ3) else (if 0 ≤ mw (6 * τ1 86 30 + r') ∧ mw (6 * τ1 86 30 + r') < (12 : Int) then mlm (mup τ3 96 (mw (6 * τ1 86 30 + r')).toNat v') (fun σ8 => g_X12_biasing_b44 F σ8) else none)) = X → g_X12_biasing F τ = X := by
    intro X hX
    unfold g_X12_biasing
    exact e_mob y1 (e_t (by decide) (e_mob z1 (e_let (e_mob v1 hX))))
  by_cases c8 : τ3 86 8 = 0
  · obtain ⟨q1, q2, q3, -⟩ := v4 c8
    obtain ⟨q4, q5, -⟩ := z4 q3
    have n6 := k3.n11
    obtain ⟨τ4, e4⟩ : ∃ q, q = mup τ3 96 (6 * i + r.toNat) v := ⟨_, rfl⟩
    refine ⟨σ4, τ4, cls, head _ ?_, pc, ⟨by rw [e4]; exact g3.pr.up (by decide), by rw [e4]; exact BF.up (o := 96) (x := r.toNat) g3.bf hi (show _ < 6 by omega)⟩, v3.cg keep (by rw [e4, mup_off (by decide)]) (fun j _ => by rw [e4, mup_off (by decide)]), fun _ => ?_⟩
    · rw [c8, show 6 * τ1 86 30 + r' = ((6 * i + r.toNat : Nat) : Int) by rw [y2.2 30 (by decide), h30, q4]; omega, mwN (by omega), q1, ← e4]
      exact e_f (fun e => e rfl) (e_t (mwR (by omega) (by decide)) (e_mem rfl))
    · rw [e3 q5, e4]
      exact k3.set (f := 7) (by omega) (Or.inr (Or.inr ⟨rfl, rfl⟩)) q2
  · refine ⟨σ4, τ3, cls, head _ ?_, pc, ⟨g3.pr, g3.bf⟩, v3.cg keep rfl (fun _ _ => rfl), fun lv => absurd (CTk.of keep lv) (v3.e8 c8).2⟩
    exact e_t (by rw [mw_id (by have := (v3.e8 c8).1; omega) (by have := (v3.e8 c8).1; omega)]; exact c8) rfl
theorem j_eyes {F l p i s : Nat} {σ τ : mMem} {b : Nat → Int} (hF : 2000 ≤ F) (hb : ∀ j, j < l → 0 ≤ b j ∧ b j ≤ 255) (c : CTk σ b l s) (hs : s < l) (hm : Mt σ τ b l) (hk : PlK σ τ p i) : ∃ σ' τ', g_X6_readEyes F σ = some (0, σ') ∧ g_X12_eyeing F τ = some (0, τ') ∧ Sj σ τ σ' τ' b l p i := by
  obtain ⟨hp, hi, h13, h30⟩ := hk.1
  have np : p ≠ 14 := by omega
  obtain ⟨σ1, a1, a2, a3, a4⟩ := j_adv (F := F) hF hb c hs
  obtain ⟨τ1, y1, y2, y3, y4⟩ := r_cnt (F := F) c a4 τ hm
  have k1 : PlK σ1 τ1 p i := hk.fn a2 y2
  obtain ⟨r, σ2, b1, b2, b3, b4, r', τ2, z1, z2, z3, z4⟩ := j_bn (F := F) hF hb y3 k1
  have f2 : FN σ2 σ := b2.tr a2
  have g2 : FR τ2 τ := z2.tr y2
  obtain ⟨σ3, w1, w2, w3, w4⟩ := j_word (F := F) (k := 7) hF hb (by decide) b3
  obtain ⟨τ3, x1, x2, x3⟩ := w4 τ2 z3
  obtain ⟨v, σ4, d1, d2, d3, d4, d5, d6⟩ := j_num (F := F) (x := 0) (y := 2) hF hb (by decide) (by decide) w3
  obtain ⟨v', τ4, v1, v2, v3, v4⟩ := d6 τ3 2 x3 (fun _ => rfl)
  have f4 : FN σ4 σ := d2.tr (w2.tr f2)
  have g4 : FR τ4 τ := v2.tr (x2.tr g2)
  have k4 : PlK σ4 τ4 p i := hk.fn f4 g4
  have r4 : -1 ≤ r ∧ r < σ4 p 11 := by rw [f4.1 p np, ← a2.1 p np]; exact b4
  obtain ⟨σ5, e1, e2, e3⟩ := c_setR (F := F) (f := 5) (v := v) k4.n11 r4 (by decide)
  have keep5 : ∀ q, q = 1 ∨ (14 ≤ q ∧ q ≤ 18) → σ5 q = σ4 q := fun q hq => e2 q (by omega)
  have M5 : Mt σ5 τ4 b l := v3.cg keep5 rfl (fun _ _ => rfl)
  obtain ⟨σ6, m1, m2, m3, m4⟩ := j_word (F := F) (k := 8) hF hb (by decide) M5.st
  obtain ⟨τ6, n1, n2, n3⟩ := m4 τ4 M5
  obtain ⟨u, σ7, o1, o2, o3, o4, o5, o6⟩ := j_num (F := F) (x := 0) (y := 3) hF hb (by decide) (by decide) m3
  obtain ⟨u', τ7, u1, u2, u3, u4⟩ := o6 τ6 3 n3 (fun _ => rfl)
  have f7 : FN σ7 σ5 := o2.tr m2
  have g7 : FR τ7 τ4 := u2.tr n2
  have p7 : σ7 p = σ p := by rw [f7.1 p np, e2 p (by omega), f4.1 p np]
  have n11 : 0 ≤ σ7 p 11 ∧ σ7 p 11 ≤ 6 := by rw [p7]; exact hk.n11
  have r7 : -1 ≤ r ∧ r < σ7 p 11 := by rw [p7, ← a2.1 p np]; exact b4
  obtain ⟨σ8, i1, i2, i3⟩ := c_setR (F := F) (f := 6) (v := u) n11 r7 (by decide)
  have keep : ∀ q, q = 1 ∨ (14 ≤ q ∧ q ≤ 18) → σ8 q = σ7 q := fun q hq => i2 q (by omega)
  have cls : g_X6_readEyes F σ = some (0, σ8) := by
    unfold g_X6_readEyes
    refine e_mob a1 (e_mob b1 (e_mob w1 ?_))
    rw [show σ3 13 2 = (p : Int) by rw [w2.1 13 (by decide), f2.1 13 (by decide)]; exact h13, show ((p : Int)).toNat = p by omega]
    refine e_t (by omega) (e_mob d1 (e_mob e1 (e_mob m1 ?_)))
    rw [show σ6 13 2 = (p : Int) by rw [m2.1 13 (by decide), e2 13 (by omega), f4.1 13 (by decide)]; exact h13, show ((p : Int)).toNat = p by omega]
    exact e_t (by omega) (e_mob o1 (e_mob i1 rfl))
  have pc : FPc σ8 σ p := fun q q1 q2 q3 => by rw [i2 q (by omega), f7.1 q q1, e2 q (by omega), f4.1 q q1]
  have gg : FR τ7 τ := g7.tr g4
  have head : ∀ X, (if mw (τ7 86 8) ≤ 0 then (if 0 ≤ mw (6 * τ1 86 30 + r') ∧ mw (6 * τ1 86 30 + r') < (12 : Int) then mlm (mup τ7 94 (mw (6 * τ1 86 30 + r')).toNat v') (fun σ14 => if 0 ≤ mw (6 * τ1 86 30 + r') ∧ mw (6 * τ1 86 30 + r') < (12 : Int) then mlm (mup σ14 95 (mw (6 * τ1 86 30 + r')).toNat u') (fun σ15 => some (0, σ15)) else none) else none) else (some (0, τ7))) = X → g_X12_eyeing F τ = X := by
    intro X hX
    unfold g_X12_eyeing
    exact e_mob y1 (e_t (by decide) (e_mob z1 (e_let (e_mob x1 (e_mob v1 (e_mob n1 (e_mob u1 hX)))))))
  by_cases c8 : τ7 86 8 = 0
  · obtain ⟨q1, q2, q3, -⟩ := u4 c8
    have q8 : τ4 86 8 = 0 := by
      by_cases z : τ4 86 8 = 0
      · exact z
      · exfalso
        have := M5.e8 z
        rcases M5.2 with ⟨s, cc, -⟩ | ⟨fk, fp, d, rr⟩
        · exact this.2 ⟨s, cc⟩
        · have dk := d.1
          obtain ⟨τx, t1, t2, t3, t4⟩ := r_wordd (F := F) (x := 418363302244) rr (by omega) (by omega)
          have : g_X12_must_ F (xOW 8) τ4 = some (0, τx) := t1
          rw [this] at n1
          injection n1 with n1
          injection n1 with _ n1
          rw [← n1, t3] at q3
          omega
    obtain ⟨q4, q5, q6, -⟩ := v4 q8
    have q9 : τ2 86 8 = 0 := by
      by_cases z : τ2 86 8 = 0
      · exact z
      · exfalso
        have := z3.e8 z
        rcases z3.2 with ⟨s, cc, -⟩ | ⟨fk, fp, d, rr⟩
        · exact this.2 ⟨s, cc⟩
        · have dk := d.1
          obtain ⟨τx, t1, t2, t3, t4⟩ := r_wordd (F := F) (x := 418497262196) rr (by omega) (by omega)
          have : g_X12_must_ F (xOW 7) τ2 = some (0, τx) := t1
          rw [this] at x1
          injection x1 with x1
          injection x1 with _ x1
          rw [← x1, t3] at q6
          omega
    obtain ⟨q10, q11, -⟩ := z4 q9
    have n6 := hk.n11
    rw [p7] at r7
    obtain ⟨τ8, e4⟩ : ∃ q, q = mup τ7 94 (6 * i + r.toNat) v := ⟨_, rfl⟩
    obtain ⟨τ9, e5⟩ : ∃ q, q = mup τ8 95 (6 * i + r.toNat) u := ⟨_, rfl⟩
    refine ⟨σ8, τ9, cls, head _ ?_, pc, ⟨by rw [e5, e4]; exact (gg.pr.up (by decide)).up (by decide), by rw [e5, e4]; exact BF.up (o := 95) (x := r.toNat) (BF.up (o := 94) (x := r.toNat) gg.bf hi (show _ < 6 by omega)) hi (show _ < 6 by omega)⟩, u3.cg keep (by rw [e5, e4, mup_off (by decide), mup_off (by decide)]) (fun j _ => by rw [e5, e4, mup_off (by decide), mup_off (by decide)]), fun _ => ?_⟩
    · rw [c8, show 6 * τ1 86 30 + r' = ((6 * i + r.toNat : Nat) : Int) by rw [y2.2 30 (by decide), h30, q10]; omega, mwN (by omega), q1, q4, ← e4]
      exact e_t (by decide) (e_t (mwR (by omega) (by decide)) (e_mem (e_t (mwR (by omega) (by decide)) (e_mem (by rw [← e5])))))
    · have s5 := k4.set (r := r.toNat) (f := 5) (v := v) (by omega) (Or.inl ⟨rfl, rfl⟩) q5
      rw [← e3 q11] at s5
      have c7 : mup τ7 94 (6 * i + r.toNat) v 86 30 = (i : Int) := by rw [mup_off (by decide), gg.2 30 (by decide)]; exact h30
      have s7 : PlK σ7 (mup τ7 94 (6 * i + r.toNat) v) p i := by
        refine s5.fn f7 ⟨fun q hq => ?_, fun j hj => ?_⟩
        · by_cases e : q = 94
          · subst e
            funext j
            by_cases ej : j = 6 * i + r.toNat
            · rw [mup_at rfl ej]; exact (mup_at rfl ej).symm
            · rw [mup_ne (by omega), g7.1 94 (by decide)]; exact (mup_ne (by omega)).symm
          · rw [mup_off e, g7.1 q hq]; exact (mup_off e).symm
        · rw [mup_off (by decide), g7.2 j hj]; exact (congrFun (mup_off (by decide)) j).symm
      have s8 := s7.set (r := r.toNat) (f := 6) (v := u) (by rw [p7]; omega) (Or.inr (Or.inl ⟨rfl, rfl⟩)) q2
      rw [← i3 q11] at s8
      rw [e5, e4]
      exact s8
  · refine ⟨σ8, τ7, cls, head _ ?_, pc, ⟨gg.pr, gg.bf⟩, u3.cg keep rfl (fun _ _ => rfl), fun lv => absurd (CTk.of keep lv) (u3.e8 c8).2⟩
    exact e_f (by rw [mw_id (by have := (u3.e8 c8).1; omega) (by have := (u3.e8 c8).1; omega)]; have := (u3.e8 c8).1; omega) rfl
