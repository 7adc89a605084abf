/-! LAYER 2: kitchen, formulas: single values -/
theorem Go.fg {p F l i D s : Nat} {q : mRs} {σ σ1 τ : mMem} {b : Nat → Int} {Q : mMem → Nat → mMem → Prop} (h : Go p q σ1 F τ b l i D s Q) (f : FG σ1 σ p) : Go p q σ F τ b l i D s Q := by
  obtain ⟨σ', a1, a2, a3, a4⟩ := h
  exact ⟨σ', a1, a2.tr f, a3, a4⟩
theorem Go.tail {p F l i D s : Nat} {q : mRs} {σ τ : mMem} {b : Nat → Int} {k : Int → mMem → mRs} {Q : mMem → Nat → mMem → Prop} (h : Go p q σ F τ b l i D s Q) (e : ∀ σ', k 0 σ' = some (0, σ')) : Go p (mob q k) σ F τ b l i D s Q := by
  obtain ⟨σ', a1, a2, a3, a4⟩ := h
  exact ⟨σ', e_mob a1 (e σ'), a2, a3, a4⟩
theorem FH.u106 {τ' τ : mMem} {i D x : Nat} {z : Int} (h : FH τ' τ i D) (hx : D < x) : FH (mup τ' 106 x z) τ i D := by
  obtain ⟨a1, a2, a3, a4, a5, a6⟩ := h
  refine ⟨fun q hq => by rw [mup_off (by omega)]; exact a1 q hq, fun j hj => by rw [mup_off (by decide)]; exact a2 j hj, fun q j hq hj => by rw [mup_off (by omega)]; exact a3 q j hq hj, fun q j q1 q2 hj => ?_, by rw [mup_ne (by omega)]; exact a5, by rw [mup_off (by decide)]; exact a6⟩
  by_cases c : q = 106
  · rw [c, mup_ne (by omega)]; exact a4 106 j (by decide) (by decide) hj
  · rw [mup_off c]; exact a4 q j q1 q2 hj
/-- a number, or what is known -/
theorem j_leaf {F l p i D o s : Nat} {σ σ1 τ : mMem} {b : Nat → Int} {k ph bg bse a v : Int} {S : List Int} (hF : 2000 ≤ F) (hb : ∀ j, j < l → 0 ≤ b j ∧ b j ≤ 255) (hp : p = 3 ∨ p = 8) (hi : i = 0 ∨ i = 1) (ct : CTk σ b l s) (sl : s < l) (hm : Mt σ τ b l) (h41 : τ 86 41 = 0) (hf : Fr τ i D o k ph bg bse S) (hcd : Cd σ τ p i []) (h4 : σ p 4 < 1600) (ev : v = τ 86 6) (hs : srt a v) (es : σ1 = mup (mup σ (p + 4) (σ p 4).toNat (trc a v)) p 4 (σ p 4 + 1)) (f1 : FG σ1 σ p) (e14 : σ1 14 = σ 14) (hop : ∀ X, g_X12_operand_b455 F a (mup τ 105 D 0) = X → g_X12_operand F τ = X) : ∃ σ2, g_X8_next F σ1 = some (0, σ2) ∧ FN σ2 σ1 ∧ Adv F σ2 τ b l i D s (fun τ1 => τ1 86 41 = 1 ∧ Fr τ1 i D o k ph 0 bse S ∧ Cd σ2 τ1 p i []) := by
  have ct1 := ct.em f1 e14 hp
  obtain ⟨σ2, n1, n2, n3, n4⟩ := j_adv2 (F := F) hF hb ct1 sl
  refine ⟨σ2, n1, n2, ?_⟩
  have c0 : Cd σ (mup τ 105 D 0) p i [] := hcd.row (by decide)
  obtain ⟨n, m1, nlt, x3⟩ := c0.both (a := a) (v := v) h4 es hs
  obtain ⟨τ1, e1⟩ : ∃ y, y = xAdd (mup τ 105 D 0) i n a v := ⟨_, rfl⟩
  rw [← e1] at x3
  have add := r_add (F := F) (τ := mup τ 105 D 0) (a := a) (v := v) hi hf.bg.1.2.2.2 m1 nlt
  have hm0 : Mt σ (mup τ 105 D 0) b l := hm.row (by decide)
  have hm1 : Mt σ τ1 b l := hm0.cg (fun _ _ => rfl) (by rw [e1, xAdd_off (by decide)]) (fun j hj => by rw [e1, xAdd_86 (by omega)])
  obtain ⟨τ3, a1, a2, a3⟩ := n4 τ1 (hm1.em f1 e14 hp)
  obtain ⟨-, -, e82⟩ := r_lexl (F := F) ct hm1
  obtain ⟨-, -, e80⟩ := r_lexl (F := F) ct hm0
  have op : g_X12_operand F τ = some (1, τ3) := by
    refine hop _ ?_
    unfold g_X12_operand_b455
    rw [show mup τ 105 D 0 86 6 = v by rw [mup_off (by decide), ev], e80]
    refine e_t (by decide) (e_mob add ?_)
    rw [show mup (mup (mup (mup τ 105 D 0) 100 (1600 * i + n) a) 101 (1600 * i + n) v) 86 29 ((n : Int) + 1) = τ1 from e1.symm]
    exact e_mob a1 (e_t (by decide) rfl)
  obtain ⟨τ4, e4⟩ : ∃ y, y = mup τ3 86 41 1 := ⟨_, rfl⟩
  have fr1 : Fr τ1 i D o k ph 0 bse S := hf.bg.cg (fun j hj => by rw [e1, xAdd_86 (by omega)]) (fun q q1 q2 => by rw [e1, xAdd_off (by omega)])
  refine Adv.of n3 (τf := τ4) (by rw [e4]; exact a3.s41 (by decide)) (fun n => by rw [e4]; exact l_op h41 op (Or.inr rfl) (by rw [a2.fkr.1]; exact e82)) ?_ (Or.inr (by rw [e4, mup_at rfl rfl])) ⟨by rw [e4, mup_at rfl rfl], ?_, ?_⟩
  · rw [e4]
    refine ((a2.fr.fh).tr ?_).u86 (by decide)
    refine FH.tr ?_ (FH.rfl'.urow (q := 105) (x := D) (z := 0) (by decide) (Or.inl (Nat.le_refl _)))
    rw [e1]
    exact xAdd_fh nlt m1
  · rw [e4]
    exact Fr.s41 (Fr.fa fr1 a2) (Or.inl rfl)
  · rw [e4]
    exact Cd.s41 (Cd.fn (Cd.fa x3 a2) n2 hp) (by decide)
/-- nothing that is a value -/
theorem j_bad {F l i D s : Nat} {σ τ : mMem} {b : Nat → Int} {R : mMem → Prop} (ct : CTk σ b l s) (hm : Mt σ τ b l) (h41 : τ 86 41 = 0) (hop : ∀ X, g_X12_operand_b441 F (-1) (mup τ 105 D 0) = X → g_X12_operand F τ = X) : ∃ σ1, g_X8_refuseHere F 1 σ = some (0, σ1) ∧ FN σ1 σ ∧ Adv F σ1 τ b l i D s R := by
  obtain ⟨σ1, a1, a2, a3⟩ := c_ref (F := F) (x := 1) ct (by decide) ct.le
  have hm0 : Mt σ (mup τ 105 D 0) b l := hm.row (by decide)
  obtain ⟨τd, d1, d2, d3, d4, -⟩ := r_die2 (F := F) hm0 ct a3
  refine ⟨σ1, a1, a2, Adv.opErr (r := 1) h41 a3 (hop _ ?_) (Or.inr rfl) (d2.fh.tr (FH.rfl'.urow (q := 105) (by decide) (Or.inl (Nat.le_refl _)))) d3 d4⟩
  unfold g_X12_operand_b441 g_X12_operand_b455
  refine e_f (fun q => q rfl) (e_mob d1 ?_)
  rw [d3]
  exact e_f (by decide) (e_t (by decide) rfl)
/-- min, max, if -/
def chOf (w a op : Int) : Prop := (w = 26 ∧ a = 36 ∧ op = 8) ∨ (w = 27 ∧ a = 37 ∧ op = 9) ∨ (w = 21 ∧ a = 44 ∧ op = 15)
def OkC (F l p i fr : Nat) (b : Nat → Int) (m : Int) (rc : Nat → Int → Int → mMem → mRs) (o : Nat) : Prop := ∀ (w a op : Int), chOf w a op → ∀ (σ τ : mMem) (s D : Nat) (k ph bg bse : Int) (S : List Int) (bs : List Bool), wd σ w → Pre σ τ b l p i fr s D o m k ph bg bse S bs → PreL 7 σ o k ph bg bse S bs → Go p (rc 7 (o : Int) op σ) σ F τ b l i D s (Post σ b p i fr s D o 7 m k ph bse S bs)
theorem Post.leaf {σ σ' τ' : mMem} {b : Nat → Int} {p i fr s D o s' : Nat} {m k ph bse : Int} {S : List Int} {bs : List Bool} {v : Bool} (ho : o ≤ 7) (f : Fr τ' i D o k ph 0 bse S) (c : Cd σ' τ' p i []) (t : TyC σ' p fr m (v :: bs)) (e : σ' p 4 + (xCt b s : Int) ≤ σ p 4 + (xCt b s' : Int)) : Post σ b p i fr s D o 7 m k ph bse S bs σ' s' τ' := ⟨[], v, ph, 0, fun x hx => (by cases hx), by show 0 + o + 7 ≤ 14; omega, f, Or.inl rfl, c, t, e, fun _ => ⟨rfl, fun _ => rfl⟩, fun q => absurd q (by decide), fun q => absurd q (by decide), fun q => absurd q (by decide), fun q => absurd q (by decide), fun q => absurd q (by decide)⟩
theorem r_426 {F : Nat} {τ : mMem} {X : mRs} {a : Int} (h : 0 ≤ a ∧ a ≤ 5 ∨ (a = 6 ∨ a = 7) ∧ τ 86 31 = 1) : g_X12_operand_b455 F a τ = X → g_X12_operand_b426 F a τ = X := by
  intro hX
  unfold g_X12_operand_b426 g_X12_operand_b441
  have ma : mw a = a := mw_id (by omega) (by omega)
  rw [ma, show mw 5 = 5 by decide, mw_m1]
  rcases h with h | ⟨h, h31⟩
  · exact e_t (by omega) (e_t (by omega) hX)
  · rw [h31]
    exact e_f (by omega) (e_t (by decide) (e_t (by omega) hX))
theorem r_426n {F : Nat} {τ : mMem} {X : mRs} {a : Int} (h : a = -1 ∨ (a = 6 ∨ a = 7) ∧ τ 86 31 = 0) : g_X12_operand_b441 F (-1) τ = X → g_X12_operand_b426 F a τ = X := by
  intro hX
  unfold g_X12_operand_b426
  rcases h with rfl | ⟨h, h31⟩
  · exact e_t (by decide) hX
  · rw [h31]
    rcases h with rfl | rfl
    · exact e_f (by decide) (e_f (fun q => q (by decide)) hX)
    · exact e_f (by decide) (e_f (fun q => q (by decide)) hX)
theorem ok_part {F l p i fr o : Nat} {b : Nat → Int} {m : Int} {rc : Nat → Int → Int → mMem → mRs} (cx : Cx F l p i b) (hch : OkC F l p i fr b m rc o) (hsum : o < 7 → Ok F l p i fr b m (fun o σ => rc 4 o 0 σ) 5 (o + 1)) (hd4 : Dc p rc 4) : Ok F l p i fr b m (fun o σ => g_X1_part rc F o σ) 7 o := by
  intro σ τ s D k ph bg bse S bs pre preL
  obtain ⟨hF, hb, hp, hi⟩ := id cx
  obtain ⟨r1, -, -, -, r5, r6⟩ := id preL
  obtain ⟨ct, hm, h41, cp, hf, hcd, hty, h4x, hgz, hDo, hk, hbg2, hbse⟩ := id pre
  have r5' : S.length ≤ 6 * o + 5 := r5
  have r6' : bs.length ≤ 6 * o + 5 := r6
  obtain ⟨hph, hnf⟩ := r1 (by decide)
  have xl := ct.xl
  have rg := ct.rg hb
  have m40 := c_isM (F := F) (c := 40) rg (by decide)
  have w26 := c_isW (F := F) (c := 26) rg (by decide)
  have w27 := c_isW (F := F) (c := 27) rg (by decide)
  have w21 := c_isW (F := F) (c := 21) rg (by decide)
  have eo : (o : Int) + 1 = ((o + 1 : Nat) : Int) := rfl
  have hD15 : D ≤ 15 := by clear hgz hbg2 hph hnf; omega
  have o7 : o ≤ 7 := hDo.2
  have to171 : ∀ X, g_X12_operand_b171 F (mup τ 105 D 0) = X → g_X12_operand F τ = X := fun X hX => (r_oph (F := F) ct hm hf hk hbg2 hD15).1 hnf hX
  have hm0 : Mt σ (mup τ 105 D 0) b l := hm.row (by decide)
  obtain ⟨-, v0, -⟩ := r_lexl (F := F) ct hm0
  have t31 : mup τ 105 D 0 86 31 = τ 86 31 := by rw [mup_off (by decide)]
  have t6 : mup τ 105 D 0 86 6 = τ 86 6 := by rw [mup_off (by decide)]
  have m7 : mw (σ 14 7) = σ 14 7 := mw_id (by clear hgz hbg2 hph hnf; omega) (by clear hgz hbg2 hph hnf; omega)
  have leaf : ∀ (a v c x : Int) (bv : Bool) (kk : Int → mMem → mRs), (∀ σ', kk 0 σ' = some (0, σ')) → s < l → v = τ 86 6 → srt a v → trc a v = x * 16 + c → okS bs (x * 16 + c) = some (bv :: bs) → ((x * 16 + c) % 16 = 1 → (x * 16 + c) / 16 < m) → (∀ X, g_X12_operand_b455 F a (mup τ 105 D 0) = X → g_X12_operand F τ = X) → Go p (if σ 19 1 = 3 ∨ σ 19 1 = 8 then mob (g_X5_emit F (σ 19 1).toNat c x σ) (fun r σ25 => mob (g_X8_next F σ25) kk) else none) σ F τ b l i D s (Post σ b p i fr s D o 7 m k ph bse S bs) := by
    intro a v c x bv kk hkk sl ev hs htr hok hkn hop
    have h4 : σ p 4 < 1600 := by clear hgz hbg2 hph hnf; omega
    refine Go.emit cp h4 (fun σ1 e1 cp1 f1 e14 => ?_)
    rw [← htr] at e1 hok hkn
    obtain ⟨σ2, n1, n2, adv⟩ := j_leaf (F := F) hF hb hp hi ct sl hm h41 hf hcd h4 ev hs e1 f1 e14 hop
    refine Go.eq (e_mob n1 (hkk σ2)) ?_
    refine Adv.go adv (n2.fg hp) (by clear hgz hbg2 hph hnf; omega) (fun _ _ h => h) (fun s1 τ1 ct1 x1 hm1 fh1 r1 => ?_) (fun fk fp d => DR.ret (cp1.fn n2) d)
    obtain ⟨q41, qfr, qcd⟩ := r1
    have ty1 := (hty.em e1 hok hkn).fn n2 hp
    have e24 : σ2 p 4 = σ p 4 + 1 := by rw [n2.1 p (np14 hp), e1, mup_at rfl rfl]
    exact Go.ret (cp1.fn n2) ct1 hm1 q41 (Post.leaf o7 qfr qcd ty1 (by clear hgz hbg2 hph hnf; omega))
  show Go p (g_X1_part rc F (o : Int) σ) σ F τ b l i D s _
  unfold g_X1_part
  rw [m7, show mw 3 = 3 by decide]
  by_cases c3 : σ 14 7 = 3
  · refine Go.f (fun q => q c3) ?_
    obtain ⟨-, -, vn⟩ := v0.num
    obtain ⟨vn1, vn2, vn3⟩ := vn c3
    refine leaf 0 (σ 14 9) 0 (σ 14 9) _ _ (fun σ' => rfl) (ct.lt (by clear hgz hbg2 hph hnf; omega)) (by rw [← vn1, t6]) (Or.inl ⟨rfl, vn2, vn3⟩) ?_ (okS_num ⟨vn2, vn3⟩ (by clear hgz hbg2 hph hnf; omega)) (fun q => ?_) (fun X hX => to171 _ ((r_171 (F := F) v0).2.2.2.2.1 c3 (r_426 (Or.inl (by decide)) hX)))
    · unfold trc
      rw [if_pos rfl]
      clear hgz hbg2 hph hnf
      omega
    · clear hgz hbg2 hph hnf
      omega
  refine Go.t c3 (Go.c m40 ?_)
  by_cases c40 : mk σ 40
  · refine Go.f (mb_n0 c40) ?_
    have hop : ∀ X, mob (g_X12_opens F 2 (mup τ 105 D 0)) (fun _ σ314 => if mw 0 = 0 ∨ mw 0 = 1 then some (0, σ314) else none) = X → g_X12_operand F τ = X := fun X hX => to171 _ ((r_171 (F := F) v0).1 c40 hX)
    by_cases ho : o < 7
    · obtain ⟨σ1, n1, n2, adv⟩ := j_opn (F := F) (p := p) (kd := 2) hF hb hp ct (ct.lt (by have := c40.1; clear hgz hbg2 hph hnf; omega)) hm h41 hf hcd (by clear hgz hbg2 hph hnf; omega) ho (by clear hgz hbg2 hph hnf; omega) hop
      refine Go.eq (e_mob n1 (e_f (by decide) rfl)) ?_
      refine Adv.go adv (n2.fg hp) (by clear hgz hbg2 hph hnf; omega) (fun _ _ h => h) (fun s1 τ1 ct1 e1 hm1 fh1 r1 => ?_) (fun fk fp d => ?_)
      · obtain ⟨q41, qfr, qcd, qrow⟩ := r1
        have e44 : σ1 p 4 = σ p 4 := by rw [n2.1 p (np14 hp)]
        have pre1 : Pre σ1 τ1 b l p i fr s1 (D + 1) (o + 1) m 2 0 1 (S.length : Int) S bs := ⟨ct1, hm1, q41, cp.fn n2, qfr, qcd, hty.fn n2 hp, by clear hgz hbg2 hph hnf; omega, hgz.cg (n2.1 19 (by decide)) (fh1.2.1 31 (by decide)), by clear hgz hbg2 hph hnf; omega, by decide, Or.inr rfl, by clear hgz hbg2 hph hnf; omega⟩
        have preL1 : PreL 5 σ1 (o + 1) 2 0 1 (S.length : Int) S bs := ⟨fun _ => ⟨Or.inl rfl, fun q => absurd q (by decide)⟩, fun q => absurd q (by decide), fun q => absurd q (by decide), fun _ => Or.inl rfl, by show S.length ≤ 6 * (o + 1) + 3; clear hgz hbg2 hph hnf; omega, by show bs.length ≤ 6 * (o + 1) + 3; clear hgz hbg2 hph hnf; omega⟩
        rw [eo]
        refine Go.bind (hsum ho σ1 τ1 s1 (D + 1) 2 0 1 (S.length : Int) S bs pre1 preL1) (fun _ _ h => h.up) (fun σ2 s2 τ2 f2 cp2 ct2 hm2 h412 xle fh2 post => ?_) (fun σ2 fk fp cp2 d => ?_)
        · obtain ⟨P2, v2, ph2, bg2, mid2, q1, q2, q3, q4, -, -, q7, -⟩ := Post.mid pre1 f2 cp2 ct2 hm2 h412 fh2 post
          obtain ⟨e5, -⟩ := q4 (by decide)
          subst e5
          have nar := q7 rfl
          obtain ⟨-, -, -, -, hf2, hcd2, hty2, h4x2, hgz2, -⟩ := mid2
          have x2 := ct2.xl
          have row : ∀ q, 103 ≤ q → q ≤ 107 → τ2 q D = τ1 q D := fun q a1 a2 => fh2.2.2.2.1 q D a1 a2 (Nat.lt_succ_self D)
          clear q4 q7 hgz hbg2 hph hnf hgz2
          obtain ⟨σ3, t1, t2, adv3⟩ := j_close (F := F) (p := p) (a := 0) hF hb hp hi ct2 hm2 h412 hf2 (k0 := k) (ph0 := ph) (bg0 := 0) (bse0 := bse) ⟨by rw [row 103 (by decide) (by decide)]; exact qrow.1, by rw [row 104 (by decide) (by decide)]; exact qrow.2.1, by rw [row 105 (by decide) (by decide)]; exact qrow.2.2.1, by rw [row 107 (by decide) (by decide)]; exact qrow.2.2.2⟩ hcd2 (fun x hx => ⟨(q1 x hx).1, by have := (q1 x hx).2; omega⟩) (Or.inl ⟨rfl, rfl⟩) (by decide) (Or.inl nar) (fun q => absurd q (by decide)) (by omega) (by omega) (by omega) (by omega) (fun q => absurd q (by decide))
          refine Go.eq (e_mob t1 rfl) ?_
          refine Adv.go adv3 (t2.fg hp) (by omega) (fun _ _ h => h) (fun s3 τ3 ct3 e3 hm3 fh3 r3 => ?_) (fun fk fp d => DR.ret (cp2.fn t2) d)
          obtain ⟨z41, zfr, zcd, -⟩ := r3
          have e5 : σ3 p 4 = σ2 p 4 := by rw [t2.1 p (np14 hp)]
          exact Go.ret (cp2.fn t2) ct3 hm3 z41 (Post.leaf o7 zfr (zcd (by decide)) (hty2.fn t2 hp) (by omega))
        · exact DR.bind (DR.mark cp2 d (by decide)) (fun σ' h' d' => DR.ret h' d')
      · exact DR.bind (hd4 _ _ σ1 fk fp (cp.fn n2) d) (fun σ2 cp2 d2 => DR.bind (DR.mark cp2 d2 (by decide)) (fun σ' h' d' => DR.ret h' d'))
    · have o7' : o = 7 := by clear hgz hbg2 hph hnf; omega
      subst o7'
      obtain ⟨σ1, n1, n2, adv⟩ := j_opn7 (F := F) (R := fun _ => False) ct hm h41 hf hop
      refine Go.eq (e_mob n1 (e_t (by decide) rfl)) (Adv.go adv (n2.fg hp) (by clear hgz hbg2 hph hnf; omega) (fun _ _ h => h) (fun _ _ _ _ _ _ r => r.elim) (fun fk fp d => DR.ret (cp.fn n2) d))
  refine Go.t (mb_e0 c40) (Go.c w26 ?_)
  by_cases c26 : wd σ 26
  · exact Go.f (mb_n0 c26) (Go.tail (hch 26 36 8 (Or.inl ⟨rfl, rfl, rfl⟩) σ τ s D k ph bg bse S bs c26 pre preL) (fun _ => rfl))
  refine Go.t (mb_e0 c26) (Go.c w27 ?_)
  by_cases c27 : wd σ 27
  · exact Go.f (mb_n0 c27) (Go.tail (hch 27 37 9 (Or.inr (Or.inl ⟨rfl, rfl, rfl⟩)) σ τ s D k ph bg bse S bs c27 pre preL) (fun _ => rfl))
  refine Go.t (mb_e0 c27) (Go.c w21 ?_)
  by_cases c21 : wd σ 21
  · exact Go.f (mb_n0 c21) (Go.tail (hch 21 44 15 (Or.inr (Or.inr ⟨rfl, rfl, rfl⟩)) σ τ s D k ph bg bse S bs c21 pre preL) (fun _ => rfl))
  refine Go.t (mb_e0 c21) (Go.tail ?_ (fun _ => rfl))
  have hmm : (m = 5 ∧ σ 19 2 = 0) ∨ (m = 7 ∧ σ 19 2 = 1) := by
    rcases hgz with ⟨a, a2, -⟩ | ⟨a, a2, -⟩
    · exact Or.inl ⟨a, a2⟩
    · exact Or.inr ⟨a, a2⟩
  have kn := c_known (F := F) rg hmm
  by_cases ck : ∃ x, knW σ m x
  · obtain ⟨x, hx⟩ := ck
    refine Go.eq (kn.1 x hx) ?_
    unfold g_X1_known_b68
    have x06 : (0 ≤ x ∧ x ≤ 6) ∧ x < m := by
      rcases hx with ⟨-, e, e7⟩ | ⟨w, -, e1, e2, e3⟩
      · clear hgz hbg2 hph hnf; omega
      · by_cases c : w = 20
        · have := e3 c; clear hgz hbg2 hph hnf; omega
        · clear hgz hbg2 hph hnf; omega
    refine leaf (x + 1) (τ 86 6) 1 x false _ (fun σ' => rfl) ?_ rfl (Or.inr (Or.inl (by clear hgz hbg2 hph hnf; omega))) ?_ (okS_kn x06.1 (by clear hgz hbg2 hph hnf; omega)) (fun _ => by clear hgz hbg2 hph hnf; omega) (fun X hX => to171 _ ?_)
    · rcases hx with ⟨w, -, -⟩ | ⟨w', w, -⟩
      · exact ct.lt (by have := w.1; clear hgz hbg2 hph hnf; omega)
      · exact ct.lt (by have := w.1; clear hgz hbg2 hph hnf; omega)
    · unfold trc
      rw [if_neg (by clear hgz hbg2 hph hnf; omega), if_pos (by clear hgz hbg2 hph hnf; omega)]
      clear hgz hbg2 hph hnf
      omega
    · rcases hx with ⟨hw, e, e7⟩ | ⟨w, hw, e1, e2, e3⟩
      · have h31 : τ 86 31 = 1 := by
          rcases hgz with ⟨a, -, -⟩ | ⟨-, -, a⟩
          · clear hbg2 hph hnf; omega
          · exact a
        refine (r_171 (F := F) v0).2.2.2.2.2.2.1 hw (r_426 (Or.inr ⟨Or.inr rfl, by rw [t31]; exact h31⟩) ?_)
        rw [e] at hX
        exact hX
      · refine (r_171 (F := F) v0).2.2.2.2.2.1 w hw e1 (r_426 ?_ ?_)
        · by_cases c : w = 20
          · have h7 := e3 c
            have h31 : τ 86 31 = 1 := by
              rcases hgz with ⟨a, -, -⟩ | ⟨-, -, a⟩
              · clear hbg2 hph hnf; omega
              · exact a
            exact Or.inr ⟨Or.inl (by clear hgz hbg2 hph hnf; omega), by rw [t31]; exact h31⟩
          · exact Or.inl (by clear hgz hbg2 hph hnf; omega)
        · rw [show w - 14 = x + 1 by clear hgz hbg2 hph hnf; omega]
          exact hX
  · have nk : ∀ x, ¬ knW σ m x := fun x hx => ck ⟨x, hx⟩
    refine Go.eq (kn.2 nk) ?_
    unfold g_X1_known_b59
    have n31 : m = 5 → mup τ 105 D 0 86 31 = 0 := fun h5 => by
      rw [t31]
      rcases hgz with ⟨-, -, a⟩ | ⟨a, -, -⟩
      · exact a
      · clear hbg2 hph hnf; omega
    have m57 : ¬ m = 7 → m = 5 := fun h => by
      rcases hgz with ⟨a, -, -⟩ | ⟨a, -, -⟩
      · exact a
      · exact absurd a h
    have hop : ∀ X, g_X12_operand_b441 F (-1) (mup τ 105 D 0) = X → g_X12_operand F τ = X := by
      intro X hX
      refine to171 _ ?_
      by_cases c12 : wd σ 12
      · have m5 : m = 5 := m57 (fun h => nk 6 (Or.inl ⟨c12, rfl, h⟩))
        exact (r_171 (F := F) v0).2.2.2.2.2.2.1 c12 (r_426n (Or.inr ⟨Or.inr rfl, n31 m5⟩) hX)
      by_cases c20 : wd σ 20
      · have m5 : m = 5 := m57 (fun h => nk 5 (Or.inr ⟨20, c20, by decide, rfl, fun _ => h⟩))
        exact (r_171 (F := F) v0).2.2.2.2.2.1 20 c20 (by decide) (r_426n (Or.inr ⟨Or.inl rfl, n31 m5⟩) hX)
      exact (r_171 (F := F) v0).2.2.2.2.2.2.2 ⟨c40, c26, c27, c21, c3, fun w hw hr => by
        by_cases c : w = 20
        · rw [c] at hw; exact c20 hw
        · exact nk (w - 15) (Or.inr ⟨w, hw, hr, rfl, fun q => absurd q c⟩), c12⟩ (r_426n (Or.inl rfl) hX)
    obtain ⟨σ1, n1, n2, adv⟩ := j_bad (F := F) (R := fun _ => False) ct hm h41 hop
    exact Go.eq (e_mob n1 rfl) (Adv.go adv (n2.fg hp) (by clear hgz hbg2 hph hnf; omega) (fun _ _ h => h) (fun _ _ _ _ _ _ r => r.elim) (fun fk fp d => DR.ret (cp.fn n2) d))
