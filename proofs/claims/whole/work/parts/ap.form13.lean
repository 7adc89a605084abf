/-! LAYER 2: kitchen, formulas: min, max, if -/
theorem ok_b59 {F l p i fr o : Nat} {b : Nat → Int} {m : Int} {rc : Nat → Int → Int → mMem → mRs} (cx : Cx F l p i b) (hsum : Ok F l p i fr b m (fun o σ => rc 4 o 0 σ) 5 (o + 1)) (hd4 : Dc p rc 4) {σ τ : mMem} {s D : Nat} {k ph bse bg a op : Int} {S : List Int} {bs bs' : List Bool} {v' : Bool} (pre : Pre σ τ b l p i fr s (D + 1) (o + 1) m 3 0 bg (S.length : Int) S bs') (hrow : τ 103 D = k ∧ τ 104 D = ph ∧ τ 105 D = 0 ∧ τ 107 D = bse) (h106 : τ 106 (D + 1) = a) (ha : 30 ≤ a ∧ a ≤ 44) (htr : trc a 0 = 0 * 16 + op) (hop1 : ¬ op % 16 = 1) (hx : σ p 4 + 1 ≤ (xCt b s : Int)) (hS : S.length ≤ 6 * o + 5) (hbs : bs'.length ≤ 6 * o + 6) (hok : ∀ v w, okS (v :: w :: bs') (0 * 16 + op) = some (v' :: bs)) : Go p (g_X1_choice_b59 rc F (o : Int) op σ) σ F τ b l i D s (fun σ' s' τ' => Fr τ' i D o k ph 0 bse S ∧ Cd σ' τ' p i [] ∧ TyC σ' p fr m (v' :: bs) ∧ σ' p 4 + (xCt b s : Int) ≤ σ p 4 + (xCt b s' : Int)) := by
  have h01 : ¬ (0 * 16 + op) % 16 = 1 := by rw [show 0 * 16 + op = op by omega]; exact hop1
  obtain ⟨hF, hb, hp, hi⟩ := id cx
  obtain ⟨ct, hm, h41, cp, hf, hcd, hty, h4x, hgz, hDo, hk, hbg2, hbse⟩ := id pre
  have eo : (o : Int) + 1 = ((o + 1 : Nat) : Int) := rfl
  have xl := ct.xl
  unfold g_X1_choice_b59
  rw [eo]
  have preL : ∀ (σ : mMem) (k1 bg1 : Int) (bs1 : List Bool), ¬ isT k1 → bs1.length ≤ 6 * o + 7 → PreL 5 σ (o + 1) k1 0 bg1 (S.length : Int) S bs1 := fun σ k1 bg1 bs1 nt hl => ⟨fun _ => ⟨Or.inl rfl, fun q => absurd q nt⟩, fun q => absurd q (by decide), fun q => absurd q (by decide), fun _ => Or.inl rfl, by show S.length ≤ 6 * (o + 1) + 3; omega, by show bs1.length ≤ 6 * (o + 1) + 3; omega⟩
  refine Go.bind (hsum σ τ s (D + 1) 3 0 bg (S.length : Int) S bs' pre (preL _ _ _ _ (by decide) (by clear hgz hbg2; omega))) (fun _ _ h => h.up) (fun σ1 s1 τ1 f1 cp1 ct1 hm1 h411 xle1 fh1 post => ?_) (fun σ2 fk fp cp2 d => DR.bind (DR.mark cp2 d (by decide)) (fun σ3 cp3 d3 => DR.bind (hd4 _ _ σ3 fk fp cp3 d3) (fun σ4 cp4 d4 => DR.bind (DR.mark cp4 d4 (by decide)) (fun σ5 cp5 d5 => DR.emit cp5 d5 (fun σ' h' d' => DR.ret h' d')))))
  obtain ⟨P1, v1, ph1, bg1, mid1, q1, q2, q3, q4, -, -, q7, -⟩ := Post.mid pre f1 cp1 ct1 hm1 h411 fh1 post
  obtain ⟨e5, -⟩ := q4 (by decide)
  subst e5
  have nar := q7 rfl
  obtain ⟨-, -, -, -, hf1, hcd1, hty1, h4x1, hgz1, -, -, hbg1, -⟩ := id mid1
  have x1 := ct1.xl
  clear q4 q7
  obtain ⟨σ2, t1, t2, adv2⟩ := j_comma (F := F) (p := p) hF hb hp hi ct1 hm1 h411 hf1 hcd1 (fun x hx => ⟨(q1 x hx).1, by have := (q1 x hx).2; clear hgz hbg2 hgz1 hbg1; omega⟩) (Or.inl rfl) (by decide) (Or.inl nar) (fun q => absurd q (by decide)) (by clear hgz hbg2 hgz1 hbg1; omega) (by clear hgz hbg2 hgz1 hbg1; omega) (by clear hgz hbg2 hgz1 hbg1; omega)
  refine Go.eq (e_mob t1 rfl) ?_
  refine Adv.go adv2 (t2.fg hp) (by clear hgz hbg2 hgz1 hbg1; omega) (fun _ _ h => h.up) (fun s2 τ2 ct2 e2 hm2 fh2 r2 => ?_) (fun fk fp d => DR.bind (hd4 _ _ σ2 fk fp (cp1.fn t2) d) (fun σ4 cp4 d4 => DR.bind (DR.mark cp4 d4 (by decide)) (fun σ5 cp5 d5 => DR.emit cp5 d5 (fun σ' h' d' => DR.ret h' d'))))
  obtain ⟨z41, zfr, zcd⟩ := r2
  rw [if_pos rfl] at zfr
  have e24 : σ2 p 4 = σ1 p 4 := by rw [t2.1 p (np14 hp)]
  have lb : (v1 :: bs').length = bs'.length + 1 := rfl
  have pre2 : Pre σ2 τ2 b l p i fr s2 (D + 1) (o + 1) m 4 0 bg1 (S.length : Int) S (v1 :: bs') := ⟨ct2, hm2, z41, cp1.fn t2, zfr, zcd, hty1.fn t2 hp, by clear hgz hbg2 hgz1 hbg1; omega, hgz1.cg (t2.1 19 (by decide)) (fh2.2.1 31 (by decide)), hDo, by decide, hbg1, by clear hgz hbg2 hgz1 hbg1; omega⟩
  refine Go.bind (hsum σ2 τ2 s2 (D + 1) 4 0 bg1 (S.length : Int) S (v1 :: bs') pre2 (preL _ _ _ _ (by decide) (by rw [lb]; clear hgz hbg2 hgz1 hbg1; omega))) (fun _ _ h => h.up) (fun σ3 s3 τ3 f3 cp3 ct3 hm3 h413 xle3 fh3 post3 => ?_) (fun σ4 fk fp cp4 d4 => DR.bind (DR.mark cp4 d4 (by decide)) (fun σ5 cp5 d5 => DR.emit cp5 d5 (fun σ' h' d' => DR.ret h' d')))
  obtain ⟨P3, v3, ph3, bg3, mid3, w1, w2, w3, w4, -, -, w7, -⟩ := Post.mid pre2 f3 cp3 ct3 hm3 h413 fh3 post3
  obtain ⟨e5, -⟩ := w4 (by decide)
  subst e5
  have nar3 := w7 rfl
  obtain ⟨-, -, -, -, hf3, hcd3, hty3, h4x3, hgz3, -⟩ := id mid3
  have x3 := ct3.xl
  clear w4 w7 hgz hbg2 hgz1 hbg1 hgz3
  have row : ∀ q, 103 ≤ q → q ≤ 107 → τ3 q D = τ q D := fun q a1 a2 => by
    rw [fh3.2.2.2.1 q D a1 a2 (Nat.lt_succ_self D), fh2.2.2.2.1 q D a1 a2 (Nat.lt_succ_self D), fh1.2.2.2.1 q D a1 a2 (Nat.lt_succ_self D)]
  have r106 : τ3 106 (D + 1) = a := by rw [fh3.2.2.2.2.1, fh2.2.2.2.2.1, fh1.2.2.2.2.1]; exact h106
  obtain ⟨σ4, y1, y2, adv4⟩ := j_close (F := F) (p := p) (a := a) hF hb hp hi ct3 hm3 h413 hf3 (k0 := k) (ph0 := ph) (bg0 := 0) (bse0 := bse) ⟨by rw [row 103 (by decide) (by decide)]; exact hrow.1, by rw [row 104 (by decide) (by decide)]; exact hrow.2.1, by rw [row 105 (by decide) (by decide)]; exact hrow.2.2.1, by rw [row 107 (by decide) (by decide)]; exact hrow.2.2.2⟩ hcd3 (fun x hx => ⟨(w1 x hx).1, by have := (w1 x hx).2; omega⟩) (Or.inr (Or.inl ⟨rfl, rfl⟩)) (by decide) (Or.inl nar3) (fun q => absurd q (by decide)) (by omega) (by omega) (by omega) (by omega) (fun _ => ⟨r106, ha⟩)
  refine Go.eq (e_mob y1 rfl) ?_
  refine Adv.go adv4 (y2.fg hp) (by omega) (fun _ _ h => h) (fun s5 τ5 ct5 e5 hm5 fh5 r5 => ?_) (fun fk fp d => DR.emit (cp3.fn y2) d (fun σ' h' d' => DR.ret h' d'))
  obtain ⟨g41, gfr, -, gcd⟩ := r5
  have e44 : σ4 p 4 = σ3 p 4 := by rw [y2.1 p (np14 hp)]
  have x5 := ct5.xl
  refine Go.emit (cp3.fn y2) (by omega) (fun σ6 e6 cp6 f6 e14 => ?_)
  have e64 : σ6 p 4 = σ4 p 4 + 1 := by rw [e6, mup_at rfl rfl]
  have ty6 := (hty3.fn y2 hp).em e6 (hok v3 v1) (fun q => absurd q h01)
  exact Go.ret cp6 (ct5.em f6 e14 hp) (hm5.em f6 e14 hp) g41 ⟨gfr, gcd rfl σ6 (by rw [htr]; exact e6), ty6, by omega⟩
theorem d_b59 {F p : Nat} {rc : Nat → Int → Int → mMem → mRs} {x op fk fp : Int} {σ : mMem} (hd4 : Dc p rc 4) (cp : CP σ p) (d : DdC σ fk fp) : DR p (g_X1_choice_b59 rc F x op σ) σ fk fp := by
  unfold g_X1_choice_b59
  exact DR.bind (hd4 _ _ σ fk fp cp d) (fun σ2 cp2 d2 => DR.bind (DR.mark cp2 d2 (by decide)) (fun σ3 cp3 d3 => DR.bind (hd4 _ _ σ3 fk fp cp3 d3) (fun σ4 cp4 d4 => DR.bind (DR.mark cp4 d4 (by decide)) (fun σ5 cp5 d5 => DR.emit cp5 d5 (fun σ' h' d' => DR.ret h' d')))))
/-- a fault before the bracket -/
theorem r_276d {F : Nat} {τ : mMem} {a fk : Int} (h8 : τ 86 8 = fk) (hk : 1 ≤ fk ∧ fk ≤ 6) (h38 : 0 ≤ τ 86 38 ∧ τ 86 38 ≤ 7) : g_X12_operand_b276 F a τ = some (0, τ) := by
  have m8 : mw (τ 86 8) = fk := by rw [h8]; exact mw_id (by omega) (by omega)
  have op : ∀ kd, g_X12_opens F kd τ = some (0, τ) := by
    intro kd
    unfold g_X12_opens
    have b18 : g_X12_opens_b18 F kd τ = some (0, τ) := by
      unfold g_X12_opens_b18
      rw [m8]
      exact e_f (by omega) rfl
    by_cases c : mw (τ 86 38) = mw 7
    · exact e_f (fun q => q c) (e_mob (r_bld h8 hk) b18)
    · exact e_t c b18
  have b289 : ∀ kd, g_X12_operand_b289 F a kd τ = some (0, τ) := by
    intro kd
    unfold g_X12_operand_b289 g_X12_operand_b311
    refine e_mob (op kd) ?_
    rw [m8]
    exact e_t (by omega) (e_t (by decide) rfl)
  unfold g_X12_operand_b276
  by_cases c : mw a = mw 44
  · exact e_f (fun q => q c) (b289 6)
  · exact e_t c (b289 3)
theorem r_isSany {F : Nat} {τ : mMem} {c : Int} : ∃ r : Int, (r = 0 ∨ r = 1) ∧ g_X12_isSign F c τ = some (r, τ) := by
  unfold g_X12_isSign g_X12_isSign_b20 g_X12_isSign_b21
  by_cases c1 : mw (τ 86 3) = mw 3
  · by_cases c2 : mw (τ 86 6) = mw c
    · exact ⟨1, Or.inr rfl, e_f (fun q => q c1) (e_f (fun q => q c2) (e_t (by decide) rfl))⟩
    · exact ⟨0, Or.inl rfl, e_f (fun q => q c1) (e_t c2 (e_t (by decide) rfl))⟩
  · exact ⟨0, Or.inl rfl, e_t c1 (e_t (by decide) rfl)⟩
theorem ok_choice {F l p i fr o : Nat} {b : Nat → Int} {m : Int} {rc : Nat → Int → Int → mMem → mRs} (cx : Cx F l p i b) (hsum : o < 7 → Ok F l p i fr b m (fun o σ => rc 4 o 0 σ) 5 (o + 1)) (htest : o < 7 → Ok F l p i fr b m (fun o σ => rc 0 o 0 σ) 1 (o + 1)) (hd4 : Dc p rc 4) (hd0 : Dc p rc 0) : OkC F l p i fr b m (fun _ o x σ => g_X1_choice rc F o x σ) o := by
  intro w a op hw σ τ s D k ph bg bse S bs hwd pre preL
  obtain ⟨hF, hb, hp, hi⟩ := id cx
  obtain ⟨r1, -, -, -, r5, r6⟩ := id preL
  obtain ⟨ct, hm, h41, cp, hf, hcd, hty, h4x, hgz, hDo, hk, hbg2, hbse⟩ := id pre
  have r5' : S.length ≤ 6 * o + 5 := r5
  have r6' : bs.length ≤ 6 * o + 5 := r6
  obtain ⟨hph, hnf⟩ := r1 (by decide)
  have xl := ct.xl
  have eo : (o : Int) + 1 = ((o + 1 : Nat) : Int) := rfl
  have hD15 : D ≤ 15 := by clear hgz hbg2 hph hnf; omega
  have o7 : o ≤ 7 := hDo.2
  have to171 : ∀ X, g_X12_operand_b171 F (mup τ 105 D 0) = X → g_X12_operand F τ = X := fun X hX => (r_oph (F := F) ct hm hf hk hbg2 hD15).1 hnf hX
  have hm0 : Mt σ (mup τ 105 D 0) b l := hm.row (by decide)
  obtain ⟨-, v0, -⟩ := r_lexl (F := F) ct hm0
  clear hbg2 hph hnf
  have to249 : ∀ X, g_X12_operand_b249 F a (mup τ 105 D 0) = X → g_X12_operand F τ = X := fun X hX => to171 _ (by
    rcases hw with ⟨rfl, rfl, -⟩ | ⟨rfl, rfl, -⟩ | ⟨rfl, rfl, -⟩
    · exact (r_171 (F := F) v0).2.1 hwd hX
    · exact (r_171 (F := F) v0).2.2.1 hwd hX
    · exact (r_171 (F := F) v0).2.2.2.1 hwd hX)
  have ha : 30 ≤ a ∧ a ≤ 44 := by unfold chOf at hw; omega
  have htr : trc a 0 = 0 * 16 + op := by
    rcases hw with ⟨-, rfl, rfl⟩ | ⟨-, rfl, rfl⟩ | ⟨-, rfl, rfl⟩ <;> decide
  have hop1 : ¬ op % 16 = 1 := by
    rcases hw with ⟨-, -, rfl⟩ | ⟨-, -, rfl⟩ | ⟨-, -, rfl⟩ <;> decide
  obtain ⟨σ1, n1, n2, n3, n4⟩ := j_adv2 (F := F) hF hb ct (ct.lt (by have := hwd.1; clear hw hgz; omega))
  obtain ⟨τ1, a1, a2, a3⟩ := n4 _ hm0
  have hf1 : Fr τ1 i D o k ph 0 bse S := hf.bg.fa a2
  have cd1 : Cd σ1 τ1 p i [] := Cd.fn (Cd.fa (hcd.row (by decide)) a2) n2 hp
  have fh1 : FH τ1 τ i D := (a2.fr.fh).tr (FH.rfl'.urow (q := 105) (x := D) (z := 0) (by decide) (Or.inl (Nat.le_refl _)))
  have cp1 : CP σ1 p := cp.fn n2
  have e44 : σ1 p 4 = σ p 4 := by rw [n2.1 p (np14 hp)]
  show Go p (g_X1_choice rc F (o : Int) op σ) σ F τ b l i D s _
  unfold g_X1_choice
  refine Go.eq (e_mob n1 rfl) ?_
  rcases n3 with ⟨s1, ct1, x1⟩ | ⟨fk, fp, d⟩
  · have xl1 := ct1.xl
    have rg1 := ct1.rg hb
    refine Go.fg (Go.back (s1 := s1) ?_ (by clear hw hgz; omega)) (n2.fg hp)
    refine Go.c (c_isM (F := F) (c := 40) rg1 (by decide)) ?_
    obtain ⟨lx, v1, e81⟩ := r_lexl (F := F) ct1 a3
    have to276 : mk σ1 40 → ∀ X, g_X12_operand_b276 F a τ1 = X → g_X12_operand F τ = X := fun c X hX => to249 _ (by
      unfold g_X12_operand_b249
      exact e_mob a1 (e_mob lx (e_mob (r_isS v1 (by decide)) (e_t (mb_n0 c) hX))))
    by_cases c40 : mk σ1 40
    · refine Go.t (mb_n0 c40) ?_
      by_cases ho : o < 7
      · obtain ⟨σ2, t1, t2, t3, t4⟩ := j_adv2 (F := F) hF hb ct1 (ct1.lt (by have := c40.1; clear hw hgz; omega))
        obtain ⟨kd, hkd⟩ : ∃ kd : Int, kd = if op = 15 then 6 else 3 := ⟨_, rfl⟩
        obtain ⟨τf, b1, b2, b3, b4, b5, b6⟩ := r_open (F := F) (p := p) (kd := kd) t2 hp t4 a3 hf1 ho (by clear hw hgz; omega) (by clear hw hgz; omega) e81 cd1
        obtain ⟨τ2, e2⟩ : ∃ y, y = mup (mup τf 106 (D + 1) a) 86 41 0 := ⟨_, rfl⟩
        have hD1 : D + 1 ≤ 15 := by clear hw hgz; omega
        have opr : g_X12_operand F τ = some (0, mup τf 106 (D + 1) a) := by
          refine to276 c40 _ ?_
          have b289 : g_X12_operand_b289 F a kd τ1 = some (0, mup τf 106 (D + 1) a) := by
            unfold g_X12_operand_b289 g_X12_operand_b311
            refine e_mob b1 ?_
            have f37 : τf 86 37 - 1 = ((D + 1 : Nat) : Int) := by rw [b4.1.1]; omega
            rw [b5, f37, (mwD hD1).1]
            exact e_f (fun q => q (by decide)) (e_t (mwD hD1).2 (e_mem (e_t (by decide) rfl)))
          unfold g_X12_operand_b276
          rcases hw with ⟨-, rfl, rfl⟩ | ⟨-, rfl, rfl⟩ | ⟨-, rfl, rfl⟩
          · rw [if_neg (by decide)] at hkd
            rw [hkd] at b289
            exact e_t (by decide) b289
          · rw [if_neg (by decide)] at hkd
            rw [hkd] at b289
            exact e_t (by decide) b289
          · rw [if_pos rfl] at hkd
            rw [hkd] at b289
            exact e_f (fun q => q rfl) b289
        have cd2 : Cd σ2 τ2 p i [] := by rw [e2]; exact (b6.row (by decide)).s41 (by decide)
        have fr2 : Fr τ2 i (D + 1) (o + 1) kd 0 1 (S.length : Int) S := by
          rw [e2]
          refine Fr.s41 ?_ (Or.inl rfl)
          obtain ⟨g1, g2, g3⟩ := b4
          exact ⟨by rw [mup_off (by decide)]; exact g1, by rw [mup_off (by decide), mup_off (by decide), mup_off (by decide), mup_off (by decide)]; exact g2, by rw [mup_off (by decide)]; exact g3⟩
        have row2 : ∀ q, 103 ≤ q → q ≤ 107 → τ2 q D = τ1 q D := fun q q1 q2 => by
          rw [e2, mup_off (by clear hw hgz; omega)]
          have h := b3.2.2.2.1 q D q1 q2 (Nat.lt_succ_self D)
          by_cases c : q = 106
          · rw [c] at h ⊢
            rw [mup_ne (by clear hw hgz; omega)]; exact h
          · rw [mup_off c]; exact h
        have r106 : τ2 106 (D + 1) = a := by rw [e2, mup_off (by decide), mup_at rfl rfl]
        have hrow : τ2 103 D = k ∧ τ2 104 D = ph ∧ τ2 105 D = 0 ∧ τ2 107 D = bse := by
          obtain ⟨-, ⟨g1, g2, g3, g4⟩, -⟩ := hf1
          exact ⟨by rw [row2 103 (by decide) (by decide)]; exact g1, by rw [row2 104 (by decide) (by decide)]; exact g2, by rw [row2 105 (by decide) (by decide)]; exact g3, by rw [row2 107 (by decide) (by decide)]; exact g4⟩
        have fh2 : FH τ2 τ i D := by
          rw [e2]
          exact ((b3.up.tr fh1).u106 (Nat.lt_succ_self D)).u86 (by decide)
        have adv : Adv F σ2 τ b l i D s1 (fun y => y = τ2) := Adv.of t3 (τf := τ2) (by rw [e2]; exact (b2.row (by decide)).s41 (by decide)) (fun n => by rw [e2]; exact l_op h41 opr (Or.inl rfl) (by rw [mup_off (by decide)]; exact b5)) fh2 (Or.inl (by rw [e2, mup_at rfl rfl])) rfl
        have g31 : Gz σ2 τ2 m := hgz.cg ((t2.1 19 (by decide)).trans (n2.1 19 (by decide))) (fh2.2.1 31 (by decide))
        have e24 : σ2 p 4 = σ p 4 := by rw [t2.1 p (np14 hp)]; exact e44
        have cp2 : CP σ2 p := cp1.fn t2
        have ty2 : TyC σ2 p fr m bs := (hty.fn n2 hp).fn t2 hp
        refine Go.eq (e_mob (c_pass ho t1) (e_t (by decide) rfl)) ?_
        refine Adv.go adv (t2.fg hp) (by clear hw hgz; omega) (fun _ _ h => h) (fun s2 y ct2 x2 hm2 _ ey => ?_) (fun fk fp d => ?_)
        · subst ey
          have z41 : y 86 41 = 0 := by rw [e2, mup_at rfl rfl]
          have pre2 : Pre σ2 y b l p i fr s2 (D + 1) (o + 1) m kd 0 1 (S.length : Int) S bs := ⟨ct2, hm2, z41, cp2, fr2, cd2, ty2, by clear hw hgz g31; omega, g31, by clear hw hgz g31; omega, by rw [hkd]; by_cases c : op = 15 <;> simp [c], Or.inr rfl, by clear hw hgz g31; omega⟩
          by_cases c15 : op = 15
          · rw [if_pos c15] at hkd
            subst hkd
            subst c15
            refine Go.f (fun q => q rfl) ?_
            rw [eo]
            have preL1 : PreL 1 σ2 (o + 1) 6 0 1 (S.length : Int) S bs := ⟨fun q => absurd q (by decide), fun q => absurd q (by decide), fun _ => ⟨by decide, rfl, rfl⟩, fun _ => Or.inl rfl, by show S.length ≤ 6 * (o + 1) + 0; clear hw hgz g31; omega, by show bs.length ≤ 6 * (o + 1) + 0; clear hw hgz g31; omega⟩
            refine Go.bind (htest ho σ2 y s2 (D + 1) 6 0 1 (S.length : Int) S bs pre2 preL1) (fun _ _ h => h.up) (fun σ3 s3 τ3 f3 cp3 ct3 hm3 h413 xle fh3 post => ?_) (fun σ3 fk fp cp3 d => DR.bind (DR.mark cp3 d (by decide)) (fun σ4 cp4 d4 => d_b59 hd4 cp4 d4))
            obtain ⟨P3, v3, ph3, bg3, mid3, q1, q2, q3, -, q5, -, -, q8, q9⟩ := Post.mid pre2 f3 cp3 ct3 hm3 h413 fh3 post
            obtain ⟨ev, eph, ear⟩ := q5 (by decide)
            subst ev
            obtain ⟨-, -, -, -, hf3, hcd3, hty3, h4x3, hgz3, -, -, hbg3, -⟩ := id mid3
            have n8 := q8 (by decide)
            have n9 := q9 (by decide)
            have xl3 := ct3.xl
            clear q8 q9 q5 hw hgz g31
            have p12 : 0 ≤ ph3 ∧ ph3 ≤ 2 := by clear ear hgz3 hbg3; omega
            have p0 : ph3 ≠ 0 := by clear ear hgz3 hbg3; omega
            obtain ⟨σ4, y1, y2, adv4⟩ := j_comma (F := F) (p := p) hF hb hp hi ct3 hm3 h413 hf3 hcd3 (fun x hx => q1 x hx) (Or.inr rfl) p12 ear (fun _ => ⟨p0, n8, n9⟩) (by clear eph ear hgz3 hbg3; omega) (by clear eph ear hgz3 hbg3; omega) (by clear eph ear hgz3 hbg3; omega)
            refine Go.eq (e_mob y1 rfl) ?_
            refine Adv.go adv4 (y2.fg hp) (by clear eph ear hgz3 hbg3; omega) (fun _ _ h => h.up) (fun s4 τ4 ct4 x4 hm4 fh4 r4 => ?_) (fun fk fp d => d_b59 hd4 (cp3.fn y2) d)
            obtain ⟨u41, ufr, ucd⟩ := r4
            rw [if_neg (by decide)] at ufr
            have e54 : σ4 p 4 = σ3 p 4 := by rw [y2.1 p (np14 hp)]
            have lb : (true :: bs).length = bs.length + 1 := rfl
            have pre4 : Pre σ4 τ4 b l p i fr s4 (D + 1) (o + 1) m 3 0 bg3 (S.length : Int) S (true :: bs) := ⟨ct4, hm4, u41, cp3.fn y2, ufr, ucd, hty3.fn y2 hp, by clear eph ear hgz3 hbg3; omega, hgz3.cg (y2.1 19 (by decide)) (fh4.2.1 31 (by decide)), by clear eph ear hgz3 hbg3; omega, by decide, hbg3, by clear eph ear hgz3 hbg3; omega⟩
            have row4 : ∀ q, 103 ≤ q → q ≤ 107 → τ4 q D = y q D := fun q a1 a2 => by rw [fh4.2.2.2.1 q D a1 a2 (Nat.lt_succ_self D), fh3.2.2.2.1 q D a1 a2 (Nat.lt_succ_self D)]
            have go := ok_b59 (o := o) (k := k) (ph := ph) (bse := bse) (a := a) (op := 15) (bs := bs) (v' := false) cx (hsum ho) hd4 pre4 ⟨by rw [row4 103 (by decide) (by decide)]; exact hrow.1, by rw [row4 104 (by decide) (by decide)]; exact hrow.2.1, by rw [row4 105 (by decide) (by decide)]; exact hrow.2.2.1, by rw [row4 107 (by decide) (by decide)]; exact hrow.2.2.2⟩ (by rw [fh4.2.2.2.2.1, fh3.2.2.2.2.1]; exact r106) ha htr hop1 (by clear eph ear hgz3 hbg3; omega) r5' (by rw [lb]; clear eph ear hgz3 hbg3; omega) (fun v w => okS_if (by clear eph ear hgz3 hbg3; omega))
            exact go.post (fun σ' s' τ' _ _ _ _ _ _ q => Post.leaf o7 q.1 q.2.1 q.2.2.1 (by have := q.2.2.2; clear eph ear hgz3 hbg3; omega))
          · rw [if_neg c15] at hkd
            subst hkd
            have m15 : ¬ mw op = mw 15 := by
              rcases hw with ⟨-, -, rfl⟩ | ⟨-, -, rfl⟩ | ⟨-, -, rfl⟩
              · decide
              · decide
              · exact absurd rfl c15
            refine Go.t m15 ?_
            have op12 : 3 ≤ op ∧ op ≤ 12 := by
              rcases hw with ⟨-, -, rfl⟩ | ⟨-, -, rfl⟩ | ⟨-, -, rfl⟩
              · decide
              · decide
              · exact absurd rfl c15
            have go := ok_b59 (o := o) (k := k) (ph := ph) (bse := bse) (a := a) (op := op) (bs := bs) (v' := decide (10 ≤ op)) cx (hsum ho) hd4 pre2 hrow r106 ha htr hop1 (by clear hw hgz g31; omega) r5' (by clear hw hgz g31; omega) (fun v w => okS_bin op12 (by clear hw hgz g31; omega))
            exact go.post (fun σ' s' τ' _ _ _ _ _ _ q => Post.leaf o7 q.1 q.2.1 q.2.2.1 (by have := q.2.2.2; clear hw hgz g31; omega))
        · by_cases c15 : mw op = mw 15
          · exact DR.f (fun q => q c15) (DR.bind (hd0 _ _ σ2 fk fp cp2 d) (fun σ3 cp3 d3 => DR.bind (DR.mark cp3 d3 (by decide)) (fun σ4 cp4 d4 => d_b59 hd4 cp4 d4)))
          · exact DR.t c15 (d_b59 hd4 cp2 d)
      · have o7' : o = 7 := by clear hw hgz; omega
        subst o7'
        obtain ⟨σ2, t1, t2, t3⟩ := c_pass7 (F := F) ct1
        have opr : ∃ τd, g_X12_operand F τ = some (0, τd) ∧ FH τd τ i D ∧ τd 86 8 = 5 ∧ τd 86 9 = (s1 : Int) := by
          have b289 : ∀ kd, ∃ τd, g_X12_operand_b289 F a kd τ1 = some (0, τd) ∧ FH τd τ i D ∧ τd 86 8 = 5 ∧ τd 86 9 = (s1 : Int) := by
            intro kd
            obtain ⟨τd, d1, d2, d3, d4⟩ := r_open7 (F := F) (kd := kd) ct1 a3 hf1 t3
            refine ⟨τd, ?_, d2.fh.tr fh1, d3, d4⟩
            unfold g_X12_operand_b289 g_X12_operand_b311
            refine e_mob d1 ?_
            rw [d3]
            exact e_t (by decide) (e_t (by decide) rfl)
          by_cases c : mw a = mw 44
          · obtain ⟨τd, d1, d2⟩ := b289 6
            refine ⟨τd, to276 c40 _ ?_, d2⟩
            unfold g_X12_operand_b276
            exact e_f (fun q => q c) d1
          · obtain ⟨τd, d1, d2⟩ := b289 3
            refine ⟨τd, to276 c40 _ ?_, d2⟩
            unfold g_X12_operand_b276
            exact e_t c d1
        obtain ⟨τd, o1, o2, o3, o4⟩ := opr
        have adv : Adv F σ2 τ b l i D s1 (fun _ => False) := Adv.opErr (r := 0) h41 t3 o1 (Or.inl rfl) o2 o3 o4
        exact Go.eq (e_mob t1 (e_f (fun q => q (by decide)) rfl)) (Adv.go adv (t2.fg hp) (by clear hw hgz; omega) (fun _ _ h => h) (fun _ _ _ _ _ _ r => r.elim) (fun fk fp d => DR.ret (cp1.fn t2) d))
    · refine Go.f (fun q => q (mb_e0 c40)) ?_
      obtain ⟨σ2, t1, t2, t3⟩ := c_ref (F := F) (x := 1) ct1 (by decide) ct1.le
      obtain ⟨τd, d1, d2, d3, d4, d5, -⟩ := r_die2 (F := F) a3 ct1 t3
      have opr : g_X12_operand F τ = some (0, τd) := to249 _ (by
        unfold g_X12_operand_b249
        refine e_mob a1 (e_mob lx (e_mob (r_isS v1 (by decide)) (e_f (fun q => q (mb_e0 c40)) (e_mob d1 ?_))))
        exact r_276d d3 (by decide) (by rw [d5 38 (by decide) (by decide), hf1.1.2.1]; clear hw hgz; omega))
      have adv : Adv F σ2 τ b l i D s1 (fun _ => False) := Adv.opErr (r := 0) h41 t3 opr (Or.inl rfl) (d2.fh.tr fh1) d3 d4
      exact Go.eq (e_mob t1 rfl) (Adv.go adv (t2.fg hp) (by clear hw hgz; omega) (fun _ _ h => h) (fun _ _ _ _ _ _ r => r.elim) (fun fk fp d => DR.ret (cp1.fn t2) d))
  · have dd := a3.dead d
    obtain ⟨τ2, l1, l2, l3, l4⟩ := r_lexd (F := F) dd ⟨d.1.1, d.1.2.1⟩ d.1.2.2
    have h38 : 0 ≤ τ2 86 38 ∧ τ2 86 38 ≤ 7 := by rw [l2.2 38 (by decide), hf1.1.2.1]; clear hw hgz; omega
    have d276 := r_276d (F := F) (a := a) l3 ⟨d.1.1, d.1.2.1⟩ h38
    have opr : g_X12_operand F τ = some (0, τ2) := to249 _ (by
      unfold g_X12_operand_b249
      obtain ⟨r, hr, e⟩ := r_isSany (F := F) (τ := τ2) (c := 40)
      refine e_mob a1 (e_mob l1 (e_mob e ?_))
      rcases hr with rfl | rfl
      · exact e_f (fun q => q (by decide)) (e_mob (r_bld l3 ⟨d.1.1, d.1.2.1⟩) d276)
      · exact e_t (by decide) d276)
    have adv : Adv F σ1 τ b l i D s (fun _ => False) := Adv.opErr (r := 0) h41 d opr (Or.inl rfl) (l2.fh.tr fh1) l3 l4
    refine Adv.go adv (n2.fg hp) (by clear hw hgz; omega) (fun _ _ h => h) (fun _ _ _ _ _ _ r => r.elim) (fun fk fp d => ?_)
    exact DR.c (c_isMd d (by decide)) (DR.f (fun q => q (by decide)) (DR.bind (DR.ref cp1 d) (fun σ' h' d' => DR.ret h' d')))
