/-! LAYER 2: kitchen: behind a statement -/
theorem r_skip {F e l : Nat} {τ : mMem} {b : Nat → Int} {x : Int} (hF : 2000 ≤ F) (hx : RTx τ b l) (he : e ≤ l) : ∃ y, (e ≤ y ∧ y ≤ l) ∧ (∀ j, e ≤ j → j < y → xBla b j) ∧ (y < l → ¬ xBla b y) ∧ g_X12_finishes_h17 F F x (e : Int) τ = g_X12_finishes_b53 F x (y : Int) τ := by
  obtain ⟨hl, h2, hb⟩ := hx
  have skip : ∀ (d k fuel : Nat), d + k = l → d < fuel → e ≤ k → (∀ j, e ≤ j → j < k → xBla b j) → ∃ s, (e ≤ s ∧ s ≤ l) ∧ (∀ j, e ≤ j → j < s → xBla b j) ∧ (s < l → ¬ xBla b s) ∧ g_X12_finishes_h17 F fuel x (k : Int) τ = g_X12_finishes_b53 F x (s : Int) τ := by
    intro d
    induction d with
    | zero =>
      intro k fuel e1 e2 e3 e4
      obtain ⟨f, rfl⟩ : ∃ f, fuel = f + 1 := ⟨fuel - 1, by omega⟩
      refine ⟨k, by omega, e4, fun h => absurd h (by omega), ?_⟩
      conv => lhs; unfold g_X12_finishes_h17
      rw [h2]
      exact e_t (by rw [mw_id (by omega) (by omega), mw_id (by omega) (by omega)]; omega) rfl
    | succ d ih =>
      intro k fuel e1 e2 e3 e4
      obtain ⟨f, rfl⟩ : ∃ f, fuel = f + 1 := ⟨fuel - 1, by omega⟩
      obtain ⟨b1, b2, b3⟩ := hb k (by omega)
      have hd : ∀ X, (if xBla b k then (g_X12_finishes_h17 F f x ((k : Int) + 1) τ) else (g_X12_finishes_b53 F x (k : Int) τ)) = X → g_X12_finishes_h17 F (f + 1) x (k : Int) τ = X := by
        intro X hX
        conv => lhs; unfold g_X12_finishes_h17 g_X12_finishes_b47
        rw [h2, mwN (i := k) (by omega), b1, mw_id (z := b k) (by omega) (by omega), mw_id (z := 32) (by decide) (by decide), mw_id (z := 10) (by decide) (by decide)]
        refine e_f (by rw [mw_id (by omega) (by omega), mw_id (by omega) (by omega)]; omega) (e_t (mwR (by omega) (by decide)) ?_)
        by_cases c1 : b k = 32
        · rw [if_pos (Or.inl c1)] at hX
          exact e_t c1 hX
        · refine e_f c1 (e_t (mwR (by omega) (by decide)) ?_)
          by_cases c2 : b k = 10
          · rw [if_pos (Or.inr c2)] at hX
            exact e_f (fun e => e c2) hX
          · rw [if_neg (by omega)] at hX
            exact e_t c2 hX
      by_cases cb : xBla b k
      · obtain ⟨s, s1, s2, s3, s4⟩ := ih (k + 1) f (by omega) (by omega) (by omega) (fun j j1 j2 => by
          by_cases cj : j = k
          · rw [cj]; exact cb
          · exact e4 j j1 (by omega))
        refine ⟨s, s1, s2, s3, hd _ ((if_pos cb).trans ?_)⟩
        rw [← s4, show ((k + 1 : Nat) : Int) = (k : Int) + 1 by omega]
      · exact ⟨k, by omega, e4, fun _ => cb, hd _ (if_neg cb)⟩
  exact skip (l - e) e F (by omega) (by omega) (by omega) (fun j j1 j2 => absurd j1 (by omega))
/-- one sign further; a pending fault has a sign -/
theorem j_adv3 {F l s : Nat} {σ : mMem} {b : Nat → Int} (hF : 2000 ≤ F) (hb : ∀ j, j < l → 0 ≤ b j ∧ b j ≤ 255) (h : CTk σ b l s) (hs : s < l) : ∃ s' σ', g_X8_next F σ = some (0, σ') ∧ FN σ' σ ∧ Nx b l s s' ∧ (∀ z, CTk σ' b l z → z = s') ∧ ∀ τ, Mt σ τ b l → ∃ τ', g_X12_ahead F τ = some (0, τ') ∧ FA τ' τ ∧ Mt σ' τ' b l ∧ (∀ fk fp, DdC σ' fk fp → 1 ≤ τ' 86 3 ∧ τ' 86 3 ≤ 3) := by
  obtain ⟨s', hn⟩ := nx_ex (b := b) hs
  obtain ⟨σ', a1, a2, a3⟩ := c_next (F := F) hb h hs hn
  refine ⟨s', σ', a1, a2, hn, fun z cz => ?_, fun τ hm => ?_⟩
  · rcases a3 with c | ⟨k, -, d⟩
    · exact c.same cz
    · exact (cz.nd d).elim
  · obtain ⟨r, e8⟩ := hm.live h
    obtain ⟨s2, τ', t1, t2, t3, t4⟩ := r_next (F := F) hF hm.1 hs r
    have : s2 = s' := t3.uniq hn
    subst this
    have e8' : τ' 86 8 = 0 := by rw [t2.2 8 (by decide) (by decide) (by decide) (by decide) (by decide) (by decide)]; exact e8
    refine ⟨τ', t1, t2, ⟨hm.1.fa t2, ?_⟩, fun fk fp d => ?_⟩
    · rcases a3 with c | ⟨k, ⟨k1, k2, k3⟩, d⟩
      · exact Or.inl ⟨s2, c, t4, e8'⟩
      · exact Or.inr ⟨1, (k : Int), d, Or.inr ⟨e8', rfl, t4.bad k2 k1 k3⟩⟩
    · rcases a3 with c | ⟨k, ⟨k1, k2, k3⟩, -⟩
      · exact (c.nd d).elim
      · rcases t4 with ⟨q, -⟩ | ⟨-, ⟨-, -, q, -⟩ | ⟨n, -, -, -, q, -⟩ | ⟨n, -, -, -, q, -⟩⟩
        · omega
        · rw [q]; decide
        · rw [q]; decide
        · rw [q]; decide
/-- the class: how a statement ends -/
def cFin (F : Nat) (N : Int) (σ : mMem) : mRs := if ¬ mw N = mw 80 then g_X8_takeMark F 59 σ else mob (g_X8_isMark F 59 σ) (fun r σ1 => if mw r = 0 then g_X8_takeMark F 59 σ1 else mob (g_X8_refuseMore F σ1) (fun _ σ2 => g_X8_takeMark F 59 σ2))
theorem mo_fin {F : Nat} {N : Int} {σ : mMem} : Mono (cFin F N σ) σ := by
  unfold cFin
  exact Mono.ite (fun _ => mo_mark) (fun _ => Mono.mob mo_isM (fun _ _ => Mono.ite (fun _ => mo_mark) (fun _ => Mono.mob (Mono.fr (fun r σ' e => f_X8_refuseMore e 14 6 (by unfold T_X8_refuseMore; decide))) (fun _ _ => mo_mark))))
def Fin (σ τ σ' τ' : mMem) (b : Nat → Int) (l N : Nat) : Prop := FN σ' σ ∧ FR τ' τ ∧ Mt σ' τ' b l ∧ (∀ s', CTk σ' b l s' → N < 80 ∨ s' = l) ∧ (∀ fk fp, DdC σ' fk fp → ¬ τ' 86 8 = 0 ∨ (1 ≤ τ' 86 3 ∧ τ' 86 3 ≤ 3)) ∧ ((∃ s, CTk σ' b l s) → ∃ s, CTk σ b l s)
theorem r_mustd {F : Nat} {τ : mMem} {fk fp c : Int} (h8 : τ 86 8 = fk) (h9 : τ 86 9 = fp) (hk : 1 ≤ fk ∧ fk ≤ 6) (hp : 0 ≤ fp ∧ fp ≤ 2000) : ∃ τ', g_X12_must F c τ = some (0, τ') ∧ FR τ' τ ∧ τ' 86 8 = fk ∧ τ' 86 9 = fp := by
  obtain ⟨τ1, a1, a2, a3, a4⟩ := r_lexd (F := F) (Or.inl ⟨h8, h9⟩) hk hp
  refine ⟨τ1, ?_, a2, a3, a4⟩
  obtain ⟨r, hr, e⟩ := r_isSany (F := F) (τ := τ1) (c := c)
  have n : ¬ mw (τ1 86 8) = 0 := by rw [a3, mw_id (by omega) (by omega)]; omega
  unfold g_X12_must g_X12_must_b21 g_X12_must_b32
  refine e_mob a1 (e_mob e ?_)
  rcases hr with rfl | rfl
  · exact e_f (fun q => q (by decide)) (e_mob (r_bld a3 hk) (e_t n rfl))
  · exact e_t (by decide) (e_t n rfl)
theorem j_fin {F l N : Nat} {σ τ : mMem} {b : Nat → Int} (hF : 2000 ≤ F) (hb : ∀ j, j < l → 0 ≤ b j ∧ b j ≤ 255) (hm : Mt σ τ b l) (hN : N ≤ 80) : ∃ σ' τ', cFin F (N : Int) σ = some (0, σ') ∧ g_X12_finishes F (N : Int) τ = some (0, τ') ∧ Fin σ τ σ' τ' b l N := by
  have mN : mw (N : Int) = (N : Int) := mw_id (by omega) (by omega)
  have m80 : mw 80 = 80 := by decide
  rcases hm.2 with ⟨s, c, r, e8⟩ | ⟨fk, fp, d, dr⟩
  · obtain ⟨lx, v, -⟩ := r_lexl (F := F) c hm
    have rg := c.rg hb
    obtain ⟨e, e5, el, esl⟩ : ∃ e : Nat, τ 86 5 = (e : Int) ∧ e ≤ l ∧ (s < l → s < e ∧ (∀ j, s < j → j < e → ¬ xSg b j) ∧ (e < l → ¬ (xLt b e ∧ xLt b (e - 1)) ∧ ¬ (xDg b e ∧ xDg b (e - 1)))) := by
      by_cases sl : s < l
      · obtain ⟨e, g1, g2, g3, g4, g5⟩ := r.fin sl
        exact ⟨e, g1, g3, fun _ => ⟨g2, g4, g5⟩⟩
      · rcases r with ⟨-, -, -, q, -⟩ | ⟨⟨q, -⟩, -⟩
        · exact ⟨l, q, Nat.le_refl _, fun q => absurd q sl⟩
        · exact absurd q sl
    obtain ⟨y, y1, y2, y3, y4⟩ := r_skip (F := F) (x := (N : Int)) hF hm.1 el
    have toB : ∀ X, g_X12_finishes_b53 F (N : Int) (y : Int) τ = X → g_X12_finishes F (N : Int) τ = X := by
      intro X hX
      unfold g_X12_finishes
      refine e_mob lx ?_
      rw [e8]
      refine e_t (by decide) (e_let ?_)
      rw [e5, y4]
      exact hX
    by_cases c59 : mk σ 59
    · have sl : s < l := c.lt (by have := c59.1; omega)
      obtain ⟨e1, e2, e3⟩ := esl sl
      have hx2 := hm.1.2.1
      have hl := hm.1.1
      have nxy : Nx b l s y := by
        refine ⟨⟨by omega, y1.2⟩, ?_, fun j j1 j2 => ?_⟩
        · by_cases cy : y < l
          · refine Or.inr ⟨y3 cy, fun q => ?_, fun q => ?_⟩
            · by_cases c : y = e
              · rw [c] at q; exact (e3 (by omega)).1 ⟨q.1, q.2.2⟩
              · have := y2 (y - 1) (by omega) (by omega)
                have := q.2.2
                omega
            · by_cases c : y = e
              · rw [c] at q; exact (e3 (by omega)).2 ⟨q.1, q.2.2⟩
              · have := y2 (y - 1) (by omega) (by omega)
                have := q.2.2
                omega
          · exact Or.inl (by omega)
        · by_cases c : j < e
          · exact e2 j j1 c
          · exact fun q => q.1 (y2 j (by omega) j2)
      have m59 := c_isM (F := F) (c := 59) rg (by decide)
      by_cases many : N = 80 ∧ y < l
      · obtain ⟨rfl, yl⟩ := many
        have sg : xSg b s := by
          rcases c.2.2.2.2.2 with ⟨q, -⟩ | ⟨⟨-, q⟩, -⟩
          · omega
          · exact q
        have sgy : xSg b y := by
          rcases nxy.2.1 with q | q
          · omega
          · exact q
        have cty := xCt_gap sg nxy.1.1 nxy.2.2
        have cle := (xCt_le (b := b) (j := 0) (k := l) (by omega)).2
        have cly := xCt_lt (b := b) yl sgy
        have z0 : xCt b 0 = 0 := rfl
        have l17 : σ 17 (xCt b y) = (y : Int) ∧ (xCt b y : Int) < σ 14 5 ∧ σ 14 5 ≤ 1600 := by
          rcases c.2.2.2.1 with g | ⟨k, sb, g, g2⟩
          · exact ⟨(g.2 y yl sgy).1, by rw [g.1]; omega, by rw [g.1]; omega⟩
          · have sbl : sb < l := by have := g.1; omega
            have ysb : y ≤ sb := by
              by_cases q : y ≤ sb
              · exact q
              · exact absurd g.1.1 (nxy.2.2 sb g2 (by omega))
            have cs := (xCt_le (b := b) ysb).1
            have cs2 := xCt_lt (b := b) sbl g.1.1
            refine ⟨?_, by rw [g.2.1]; omega, by rw [g.2.1]; omega⟩
            by_cases q : y = sb
            · rw [q]; exact g.2.2.1.2.1
            · exact (g.2.2.2.1 y (by omega) sgy).1
        obtain ⟨σ1, es⟩ : ∃ z, z = mup σ 14 8 (y : Int) := ⟨_, rfl⟩
        obtain ⟨σ2, es2⟩ : ∃ z, z = mup (mup (mup (mup σ1 14 10 6) 14 11 (y : Int)) 14 7 0) 14 9 0 := ⟨_, rfl⟩
        have more : g_X8_refuseMore F σ = some (0, σ2) := by
          unfold g_X8_refuseMore g_X8_refuseMore_b44
          refine e_let ?_
          rw [c.2.2.1, show (xCt b s : Int) + 1 = ((xCt b y : Nat) : Int) by omega, mwN (i := xCt b y) (by omega), l17.1]
          refine e_f (by rw [mw_id (by omega) (by omega)]; omega) (e_f (by rw [mw_id (by omega) (by omega), mw_id (by omega) (by omega)]; omega) (e_f (by rw [mw_id (by omega) (by omega), mw_id (by omega) (by omega)]; omega) (e_t (mwR (by omega) (by decide)) (e_mem ?_))))
          rw [← es]
          refine e_mob (r := 0) (σ := σ2) ?_ rfl
          unfold g_X8_refuseHere g_X8_refuseHere_b20
          rw [show σ1 14 10 = 0 by rw [es, mup_ne (by decide)]; exact c.2.1]
          refine e_f (fun q => q (by decide)) (e_mem (e_mem (e_mem (e_mem ?_))))
          rw [mup_ne (o := 14) (j := 8) (by decide), show σ1 14 8 = (y : Int) by rw [es, mup_at rfl rfl], ← es2]
        have d2 : DdC σ2 6 (y : Int) := ⟨by omega, by rw [es2, mup_ne (by decide), mup_ne (by decide), mup_ne (by decide), mup_at rfl rfl], by rw [es2, mup_ne (by decide), mup_ne (by decide), mup_at rfl rfl], by rw [es2, mup_ne (by decide), mup_at rfl rfl], by rw [es2, mup_at rfl rfl]⟩
        have f2 : FN σ2 σ := by
          rw [es2, es]
          exact ((((FN.rfl'.up (by decide)).up (by decide)).up (by decide)).up (by decide)).up (by decide)
        obtain ⟨σ3, t1, t2, t3⟩ := c_markd (F := F) (c := 59) d2 (by decide)
        obtain ⟨τ1, et⟩ : ∃ z, z = mup (mup τ 86 8 6) 86 9 (y : Int) := ⟨_, rfl⟩
        have r1 : FR τ1 τ := by
          rw [et]
          exact ⟨fun q hq => by rw [mup_off hq, mup_off hq], fun j hj => by rw [mup_ne (by omega), mup_ne (by omega)]⟩
        obtain ⟨τ2, u1, u2, u3, u4⟩ := r_mustd (F := F) (τ := τ1) (c := 59) (fk := 6) (fp := (y : Int)) (by rw [et, mup_ne (by decide), mup_at rfl rfl]) (by rw [et, mup_at rfl rfl]) (by decide) (by omega)
        refine ⟨σ3, τ2, ?_, toB _ ?_, t2.tr f2, u2.tr r1, ⟨hm.1.fr (u2.tr r1), Or.inr ⟨6, (y : Int), t3, Or.inl ⟨u3, u4⟩⟩⟩, fun s' cs => (cs.nd t3).elim, fun _ _ _ => Or.inl (by rw [u3]; decide), fun _ => ⟨s, c⟩⟩
        · unfold cFin
          exact e_f (fun q => q rfl) (e_mob m59 (e_f (mb_n0 c59) (e_mob more t1)))
        · unfold g_X12_finishes_b53 g_X12_finishes_b83
          refine e_mob (r_isS v (by decide)) (e_f (mb_n0 c59) (e_f (fun q => q rfl) ?_))
          rw [hx2]
          refine e_f (by rw [mw_id (by omega) (by omega), mw_id (by omega) (by omega)]; omega) (e_mob (r_bl e8) ?_)
          rw [← et]
          exact e_mob u1 rfl
      · obtain ⟨s', σ', n1, n2, n3, n5, n4⟩ := j_adv3 (F := F) hF hb c sl
        obtain ⟨τ', a1, a2, a3, a4⟩ := n4 τ hm
        have es' : s' = y := n3.uniq nxy
        have tm := c_tm (F := F) rg (by decide) c59 n1
        have must : g_X12_must F 59 τ = some (0, τ') := by
          unfold g_X12_must g_X12_must_b21 g_X12_must_b32
          refine e_mob lx (e_mob (r_isS v (by decide)) (e_t (mb_n0 c59) ?_))
          rw [e8]
          exact e_f (fun q => q (by decide)) (e_mob a1 rfl)
        refine ⟨σ', τ', ?_, toB _ ?_, n2, a2.fr, a3, fun z cz => ?_, fun fk fp d => Or.inr (a4 fk fp d), fun _ => ⟨s, c⟩⟩
        · unfold cFin
          by_cases c80 : mw (N : Int) = mw 80
          · have yl : y = l := by rw [mN, m80] at c80; omega
            have sg : xSg b s := by
              rcases c.2.2.2.2.2 with ⟨q, -⟩ | ⟨⟨-, q⟩, -⟩
              · omega
              · exact q
            have cty := xCt_gap sg nxy.1.1 nxy.2.2
            have cle := (xCt_le (b := b) (j := 0) (k := l) (by omega)).2
            have z0 : xCt b 0 = 0 := rfl
            have more : g_X8_refuseMore F σ = some (0, σ) := by
              unfold g_X8_refuseMore g_X8_refuseMore_b44
              refine e_let ?_
              have l5 : σ 14 5 = (xCt b l : Int) := by
                rcases c.2.2.2.1 with g | ⟨k, sb, g, g2⟩
                · exact g.1
                · have := g.1
                  exact absurd g.1.1 (nxy.2.2 sb g2 (by omega))
              rw [c.2.2.1, l5, show (xCt b s : Int) + 1 = (xCt b l : Int) by rw [yl] at cty; omega]
              exact e_f (by rw [mw_id (by omega) (by omega)]; omega) (e_t (Int.le_refl _) rfl)
            exact e_f (fun q => q c80) (e_mob m59 (e_f (mb_n0 c59) (e_mob more tm)))
          · exact e_t c80 tm
        · unfold g_X12_finishes_b53 g_X12_finishes_b83
          refine e_mob (r_isS v (by decide)) (e_f (mb_n0 c59) ?_)
          by_cases c80 : mw (N : Int) = mw 80
          · have yl : y = l := by rw [mN, m80] at c80; omega
            rw [hx2, yl]
            exact e_f (fun q => q c80) (e_t (Int.le_refl _) (e_mob must rfl))
          · exact e_t c80 (e_mob must rfl)
        · have := n5 z cz
          omega
    · obtain ⟨σ1, t1, t2, t3⟩ := c_tn (F := F) hb c (by decide) c59
      obtain ⟨τd, d1, d2, d3, d4, -⟩ := r_die2 (F := F) hm c t3
      have m59 := c_isM (F := F) (c := 59) rg (by decide)
      refine ⟨σ1, τd, ?_, toB _ ?_, t2, d2, ⟨hm.1.fr d2, Or.inr ⟨1, (s : Int), t3, Or.inl ⟨d3, d4⟩⟩⟩, fun s' cs => (cs.nd t3).elim, fun _ _ _ => Or.inl (by rw [d3]; decide), fun _ => ⟨s, c⟩⟩
      · unfold cFin
        by_cases c80 : mw (N : Int) = mw 80
        · exact e_f (fun q => q c80) (e_mob m59 (e_t (mb_e0 c59) t1))
        · exact e_t c80 t1
      · unfold g_X12_finishes_b53 g_X12_finishes_b83 g_X12_must g_X12_must_b21 g_X12_must_b32
        refine e_mob (r_isS v (by decide)) (e_t (mb_e0 c59) (e_mob (e_mob lx (e_mob (r_isS v (by decide)) (e_f (fun q => q (mb_e0 c59)) (e_mob d1 (e_t ?_ rfl))))) rfl))
        rw [d3]
        decide
  · obtain ⟨σ1, t1, t2, t3⟩ := c_markd (F := F) (c := 59) d (by decide)
    obtain ⟨τ1, a1, a2, a3, a4⟩ := r_lexd (F := F) dr ⟨d.1.1, d.1.2.1⟩ d.1.2.2
    have dk := d.1
    refine ⟨σ1, τ1, ?_, ?_, t2, a2, ⟨hm.1.fr a2, Or.inr ⟨fk, fp, t3, Or.inl ⟨a3, a4⟩⟩⟩, fun s' cs => (cs.nd t3).elim, fun _ _ _ => Or.inl (by rw [a3]; omega), fun ⟨s', cs⟩ => (cs.nd t3).elim⟩
    · unfold cFin
      by_cases c80 : mw (N : Int) = mw 80
      · exact e_f (fun q => q c80) (e_mob (c_isMd d (by decide)) (e_t (by decide) t1))
      · exact e_t c80 t1
    · unfold g_X12_finishes
      refine e_mob a1 ?_
      rw [a3, mw_id (by omega) (by omega)]
      exact e_f (by omega) rfl
