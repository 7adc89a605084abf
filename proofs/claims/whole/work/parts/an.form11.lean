/-! LAYER 2: kitchen, formulas: FACT -/
theorem Post.fact {σ σ' τ' : mMem} {b : Nat → Int} {p i fr s D o s' : Nat} {m k ph bse : Int} {S : List Int} {bs : List Bool} (ho : o ≤ 7) (f : Fr τ' i D o k 2 0 bse S) (c : Cd σ' τ' p i []) (t : TyC σ' p fr m (true :: bs)) (e : σ' p 4 + (xCt b s : Int) ≤ σ p 4 + (xCt b s' : Int)) : Post σ b p i fr s D o 3 m k ph bse S bs σ' s' τ' := ⟨[], true, 2, 0, fun x hx => (by cases hx), by show 0 + o + 3 ≤ 14; omega, f, Or.inl rfl, c, t, e, fun q => absurd q (by decide), fun _ => ⟨rfl, Or.inr rfl, Or.inr rfl⟩, fun q => absurd q (by decide), fun q => absurd q (by decide), fun q => absurd q (by decide), fun q => absurd q (by decide)⟩
theorem ok_fact {F l p i fr o : Nat} {b : Nat → Int} {m : Int} {rc : Nat → Int → Int → mMem → mRs} (cx : Cx F l p i b) (hcomp : Ok F l p i fr b m (fun o σ => rc 3 o 0 σ) 4 o) (hfact : o < 7 → Ok F l p i fr b m (fun o σ => rc 2 o 0 σ) 3 (o + 1)) (htest : o < 7 → Ok F l p i fr b m (fun o σ => rc 0 o 0 σ) 1 (o + 1)) (hd2 : Dc p rc 2) (hd0 : Dc p rc 0) : Ok F l p i fr b m (fun o σ => g_X1_fact rc F o σ) 3 o := by
  intro σ τ s D k ph bg bse S bs pre preL
  obtain ⟨hF, hb, hp, hi⟩ := id cx
  obtain ⟨-, -, r3, r4, r5, r6⟩ := preL
  obtain ⟨ct, hm, h41, cp, hf, hcd, hty, h4x, hgz, hDo, hk, hbg2, hbse⟩ := id pre
  have r5' : S.length ≤ 6 * o + 2 := r5
  have r6' : bs.length ≤ 6 * o + 2 := r6
  have r4' : Jst S bse 5 := r4 (by decide)
  obtain ⟨tk, ph0, bg1⟩ := r3 (by decide)
  subst ph0
  subst bg1
  have xl := ct.xl
  have rg := ct.rg hb
  have w24 := c_isW (F := F) (c := 24) rg (by decide)
  have m91 := c_isM (F := F) (c := 91) rg (by decide)
  have w25 := c_isW (F := F) (c := 25) rg (by decide)
  have eo : (o : Int) + 1 = ((o + 1 : Nat) : Int) := rfl
  have hD15 : D ≤ 15 := by clear hgz hbg2; omega
  show Go p (g_X1_fact rc F (o : Int) σ) σ F τ b l i D s _
  unfold g_X1_fact
  refine Go.c w24 ?_
  by_cases c24 : wd σ 24
  · refine Go.f (mb_n0 c24) ?_
    by_cases ho : o < 7
    · obtain ⟨σ1, n1, n2, adv⟩ := j_not (F := F) (p := p) hF hb hp ct hm h41 c24 hf hcd tk hD15 ho (by clear hgz hbg2; omega)
      refine Go.eq (e_mob n1 (e_f (by decide) rfl)) ?_
      refine Adv.go adv (n2.fg hp) (by omega) (fun _ _ h => h) (fun s1 τ1 ct1 e1 hm1 fh1 r1 => ?_) (fun fk fp d => ?_)
      · obtain ⟨q41, qfr, qcd⟩ := r1
        have e4 : σ1 p = σ p := n2.1 p (np14 hp)
        have e44 : σ1 p 4 = σ p 4 := by rw [e4]
        have la : ((43 : Int) :: S).length = S.length + 1 := rfl
        have pre1 : Pre σ1 τ1 b l p i fr s1 D (o + 1) m k 0 1 bse (43 :: S) bs := ⟨ct1, hm1, q41, cp.fn n2, qfr, qcd, hty.fn n2 hp, by clear hgz hbg2; omega, hgz.cg (n2.1 19 (by decide)) (fh1.2.1 31 (by decide)), by clear hgz hbg2; omega, hk, Or.inr rfl, hbse⟩
        have preL1 : PreL 3 σ1 (o + 1) k 0 1 bse (43 :: S) bs := ⟨fun q => absurd q (by decide), fun q => absurd q (by decide), fun _ => ⟨tk, rfl, rfl⟩, fun _ => r4'.cons (by decide) (by decide), by rw [la]; show S.length + 1 ≤ 6 * (o + 1) + 2; clear hgz hbg2; omega, by show bs.length ≤ 6 * (o + 1) + 2; clear hgz hbg2; omega⟩
        rw [eo]
        refine Go.bind (hfact ho σ1 τ1 s1 D k 0 1 bse (43 :: S) bs pre1 preL1) (fun _ _ h => h) (fun σ2 s2 τ2 f2 cp2 ct2 hm2 h412 xle fh2 post => ?_) (fun σ2 fk fp cp2 d => ?_)
        · obtain ⟨P2, v2, ph2, bg2, mid2, q1, q2, q3, -, q5, -⟩ := Post.mid pre1 f2 cp2 ct2 hm2 h412 fh2 post
          obtain ⟨ev, eph, ear⟩ := q5 (by decide)
          subst ev
          have x2 := ct2.xl
          refine Go.emit cp2 (by clear eph ear hgz hbg2; omega) (fun σ3 e3 cp3 f3 e14 => ?_)
          have m3 : Mid σ3 τ2 b l p i fr s2 D o m k ph2 bg2 bse S bs (P2 ++ [43]) true := mid2.em e3 cp3 f3 e14 (okS_not (by clear eph ear hgz hbg2; omega)) (by decide) (by decide) (by clear eph ear hgz hbg2; omega) (by clear eph ear hgz hbg2; omega) (by rw [nots_app]; show o + 1 + nots P2 = o + (nots P2 + (1 + 0)); clear eph ear hgz hbg2; omega) hDo
          have e34 : σ3 p 4 = σ2 p 4 + 1 := by rw [e3, mup_at rfl rfl]
          have lp : (P2 ++ [(43 : Int)]).length = P2.length + 1 := by simp
          obtain ⟨ct4, hm4, h414, -, hf4, hcd4, hty4, -, -, -, -, hbg4, -⟩ := m3
          refine Go.ret cp3 ct4 hm4 h414 ⟨P2 ++ [43], true, ph2, bg2, fun x hx => ?_, by rw [lp]; clear eph ear hgz hbg2; omega, hf4, hbg4, hcd4, hty4, by clear eph ear hgz hbg2; omega, fun q => absurd q (by decide), fun _ => ⟨rfl, eph, ?_⟩, fun q => absurd q (by decide), fun q => absurd q (by decide), fun q => absurd q (by decide), fun q => absurd q (by decide)⟩
          · rcases List.mem_append.mp hx with h | h
            · exact q1 x h
            · have hx' : x = 43 := by simpa using h
              rw [hx']
              exact ⟨by decide, by decide⟩
          · rcases ear with h | h
            · exact Or.inl (fun q => h ((Ar_cg e14).mp q))
            · exact Or.inr h
        · exact DR.emit cp2 d (fun σ' h' d' => DR.ret h' d')
      · exact DR.bind (hd2 _ _ σ1 fk fp (cp.fn n2) d) (fun σ2 cp2 d2 => DR.emit cp2 d2 (fun σ' h' d' => DR.ret h' d'))
    · have o7 : o = 7 := by clear hgz hbg2; omega
      subst o7
      obtain ⟨σ1, n1, n2, adv⟩ := j_not7 (F := F) (R := fun _ => False) ct hm h41 c24 hf tk hD15
      refine Go.eq (e_mob n1 (e_t (by decide) rfl)) (Adv.go adv (n2.fg hp) (by omega) (fun _ _ h => h) (fun _ _ _ _ _ _ r => r.elim) (fun fk fp d => DR.ret (cp.fn n2) d))
  refine Go.t (mb_e0 c24) (Go.c m91 ?_)
  by_cases c91 : mk σ 91
  · refine Go.f (mb_n0 c91) ?_
    have hop : ∀ X, mob (g_X12_opens F 5 (mup τ 105 D 0)) (fun _ σ314 => if mw 0 = 0 ∨ mw 0 = 1 then some (0, σ314) else none) = X → g_X12_operand F τ = X := fun X hX => ((r_oph (F := F) ct hm hf hk (Or.inr rfl) hD15).2 ⟨tk, rfl⟩).2.1 c91 hX
    by_cases ho : o < 7
    · obtain ⟨σ1, n1, n2, adv⟩ := j_opn (F := F) (p := p) (kd := 5) hF hb hp ct (ct.lt (by have := c91.1; clear hgz hbg2; omega)) hm h41 hf hcd (by clear hgz hbg2; omega) ho (by clear hgz hbg2; omega) hop
      refine Go.eq (e_mob n1 (e_f (by decide) rfl)) ?_
      refine Adv.go adv (n2.fg hp) (by omega) (fun _ _ h => h) (fun s1 τ1 ct1 e1 hm1 fh1 r1 => ?_) (fun fk fp d => ?_)
      · obtain ⟨q41, qfr, qcd, qrow⟩ := r1
        have e4 : σ1 p = σ p := n2.1 p (np14 hp)
        have e44 : σ1 p 4 = σ p 4 := by rw [e4]
        have pre1 : Pre σ1 τ1 b l p i fr s1 (D + 1) (o + 1) m 5 0 1 (S.length : Int) S bs := ⟨ct1, hm1, q41, cp.fn n2, qfr, qcd, hty.fn n2 hp, by clear hgz hbg2; omega, hgz.cg (n2.1 19 (by decide)) (fh1.2.1 31 (by decide)), by clear hgz hbg2; omega, by decide, Or.inr rfl, by clear hgz hbg2; omega⟩
        have preL1 : PreL 1 σ1 (o + 1) 5 0 1 (S.length : Int) S bs := ⟨fun q => absurd q (by decide), fun q => absurd q (by decide), fun _ => ⟨by decide, rfl, rfl⟩, fun _ => Or.inl rfl, by show S.length ≤ 6 * (o + 1) + 0; clear hgz hbg2; omega, by show bs.length ≤ 6 * (o + 1) + 0; clear hgz hbg2; omega⟩
        rw [eo]
        refine Go.bind (htest ho σ1 τ1 s1 (D + 1) 5 0 1 (S.length : Int) S bs pre1 preL1) (fun _ _ h => h.up) (fun σ2 s2 τ2 f2 cp2 ct2 hm2 h412 xle fh2 post => ?_) (fun σ2 fk fp cp2 d => ?_)
        · obtain ⟨P2, v2, ph2, bg2, mid2, q1, q2, q3, -, q5, -, -, q8, q9⟩ := Post.mid pre1 f2 cp2 ct2 hm2 h412 fh2 post
          obtain ⟨ev, eph, ear⟩ := q5 (by decide)
          subst ev
          obtain ⟨-, -, -, -, hf2, hcd2, hty2, h4x2, hgz2, -⟩ := mid2
          have x2 := ct2.xl
          have row : ∀ q, 103 ≤ q → q ≤ 107 → τ2 q D = τ1 q D := fun q a1 a2 => fh2.2.2.2.1 q D a1 a2 (Nat.lt_succ_self D)
          have n8 := q8 (by decide)
          have n9 := q9 (by decide)
          clear q8 q9 q5
          have p12 : 0 ≤ ph2 ∧ ph2 ≤ 2 := by clear ear hgz hbg2 hgz2; omega
          have p0 : ph2 ≠ 0 := by clear ear hgz hbg2 hgz2; omega
          obtain ⟨σ3, t1, t2, adv3⟩ := j_close (F := F) (p := p) (a := 0) hF hb hp hi ct2 hm2 h412 hf2 (k0 := k) (ph0 := 0) (bg0 := 0) (bse0 := bse) ⟨by rw [row 103 (by decide) (by decide)]; exact qrow.1, by rw [row 104 (by decide) (by decide)]; exact qrow.2.1, by rw [row 105 (by decide) (by decide)]; exact qrow.2.2.1, by rw [row 107 (by decide) (by decide)]; exact qrow.2.2.2⟩ hcd2 (fun x hx => q1 x hx) (Or.inr (Or.inr ⟨rfl, rfl⟩)) p12 ear (fun _ => ⟨p0, n8, n9⟩) (by clear eph ear hgz hbg2 hgz2; omega) (by clear eph ear hgz hbg2 hgz2; omega) (by clear eph ear hgz hbg2 hgz2; omega) (by clear eph ear hgz hbg2 hgz2; omega) (fun q => absurd q (by decide))
          refine Go.eq (e_mob t1 rfl) ?_
          refine Adv.go adv3 (t2.fg hp) (by clear eph ear hgz hbg2 hgz2; omega) (fun _ _ h => h) (fun s3 τ3 ct3 e3 hm3 fh3 r3 => ?_) (fun fk fp d => DR.ret (cp2.fn t2) d)
          obtain ⟨z41, zfr, zcd, -⟩ := r3
          have e5 : σ3 p 4 = σ2 p 4 := by rw [t2.1 p (np14 hp)]
          rw [if_pos rfl] at zfr
          exact Go.ret (cp2.fn t2) ct3 hm3 z41 (Post.fact hDo.2 zfr (zcd (by decide)) (hty2.fn t2 hp) (by clear eph ear hgz hbg2 hgz2; omega))
        · exact DR.bind (DR.mark cp2 d (by decide)) (fun σ' h' d' => DR.ret h' d')
      · exact DR.bind (hd0 _ _ σ1 fk fp (cp.fn n2) d) (fun σ2 cp2 d2 => DR.bind (DR.mark cp2 d2 (by decide)) (fun σ' h' d' => DR.ret h' d'))
    · have o7 : o = 7 := by clear hgz hbg2; omega
      subst o7
      obtain ⟨σ1, n1, n2, adv⟩ := j_opn7 (F := F) (R := fun _ => False) ct hm h41 hf hop
      refine Go.eq (e_mob n1 (e_t (by decide) rfl)) (Adv.go adv (n2.fg hp) (by omega) (fun _ _ h => h) (fun _ _ _ _ _ _ r => r.elim) (fun fk fp d => DR.ret (cp.fn n2) d))
  refine Go.t (mb_e0 c91) (Go.c w25 ?_)
  by_cases c25 : wd σ 25
  · refine Go.f (mb_n0 c25) ?_
    have sl : s < l := ct.lt (by have := c25.1; clear hgz hbg2; omega)
    have xs : xCt b s < 1600 := by clear hgz hbg2; omega
    obtain ⟨σ1, n1, n2, adv⟩ := j_all (F := F) (p := p) hF hb hp hi ct hm h41 c25 hf hcd tk hD15 (by clear hgz hbg2; omega)
    refine Go.eq (e_mob n1 rfl) ?_
    refine Adv.go adv (n2.fg hp) (by omega) (fun _ _ h => h) (fun s1 τ1 ct1 e1 hm1 fh1 r1 => ?_) (fun fk fp d => DR.emit (cp.fn n2) d (fun σ' h' d' => DR.ret h' d'))
    obtain ⟨q41, qfr, qcd⟩ := r1
    have e44 : σ1 p 4 = σ p 4 := by rw [n2.1 p (np14 hp)]
    refine Go.emit (cp.fn n2) (by clear hgz hbg2; omega) (fun σ3 e3 cp3 f3 e14 => ?_)
    have e34 : σ3 p 4 = σ1 p 4 + 1 := by rw [e3, mup_at rfl rfl]
    have ty3 := (hty.fn n2 hp).em e3 (okS_num (x := 1) (by decide) (by clear hgz hbg2; omega)) (fun q => absurd q (by decide))
    exact Go.ret cp3 (ct1.em f3 e14 hp) (hm1.em f3 e14 hp) q41 (Post.fact hDo.2 qfr (qcd σ3 e3) ty3 (by clear hgz hbg2; omega))
  refine Go.t (mb_e0 c25) ?_
  refine Go.bind (hcomp σ τ s D k 0 1 bse S bs pre ⟨fun q => absurd q (by decide), fun _ => ⟨tk, rfl, c24, c91, c25⟩, fun q => absurd q (by decide), fun _ => r4', r5', r6'⟩) (fun _ _ h => h) (fun σ2 s2 τ2 f2 cp2 ct2 hm2 h412 xle fh2 post => ?_) (fun σ2 fk fp cp2 d => DR.ret cp2 d)
  obtain ⟨P2, v2, ph2, bg2, y1, y2, y3, y4, y5, y6, y7, y8, y9, -, -, -, -⟩ := post
  obtain ⟨z1, z2, z3⟩ := y9 (by decide)
  exact Go.ret cp2 ct2 hm2 h412 ⟨P2, v2, ph2, bg2, fun x hx => ⟨(y1 x hx).1, by have := (y1 x hx).2; clear hgz hbg2 y4 z2 z3 y9; omega⟩, by clear hgz hbg2 y4 z2 z3 y9; omega, y3, y4, y5, y6, y7, fun q => absurd q (by decide), fun _ => ⟨z1, z2, z3⟩, fun q => absurd q (by decide), fun q => absurd q (by decide), fun q => absurd q (by decide), fun q => absurd q (by decide)⟩
