/-! LAYER 2: kitchen, formulas: comparisons, BOTH, TEST -/
theorem ok_comp {F l p i fr o : Nat} {b : Nat → Int} {m : Int} {rc : Nat → Int → Int → mMem → mRs} (cx : Cx F l p i b) (hsum : Ok F l p i fr b m (fun o σ => rc 4 o 0 σ) 5 o) (hd : Dc p rc 4) : Ok F l p i fr b m (fun o σ => g_X1_comparison rc F o σ) 4 o := by
  intro σ τ s D k ph bg bse S bs pre preL
  obtain ⟨hF, hb, hp, hi⟩ := id cx
  obtain ⟨-, r2, -, r4, r5, r6⟩ := preL
  have r5' : S.length ≤ 6 * o + 2 := r5
  have r6' : bs.length ≤ 6 * o + 2 := r6
  have r4' : Jst S bse 5 := r4 (by decide)
  obtain ⟨tk, ph0, nf⟩ := r2 rfl
  subst ph0
  refine Go.bind (hsum σ τ s D k 0 bg bse S bs pre ⟨fun _ => ⟨Or.inl rfl, fun _ => Or.inr nf⟩, fun q => absurd q (by decide), fun q => absurd q (by decide), fun _ => r4', by show S.length ≤ 6 * o + 3; omega, by show bs.length ≤ 6 * o + 3; omega⟩) (fun _ _ h => h) (fun σ1 s1 τ1 f1 cp1 ct1 hm1 h411 xle fh1 post => ?_) (fun σ1 fk fp cp1 d => ?_)
  · obtain ⟨P, v, ph', bg', hM, q1, q2, q3, q4, -, -, q7, -⟩ := Post.mid pre f1 cp1 ct1 hm1 h411 fh1 post
    obtain ⟨e5, e6⟩ := q4 (by decide)
    subst e5
    have nar := q7 rfl
    obtain ⟨-, -, -, -, hf, hcd, hty, h4x, hgz, hDo, hk, hbg2, hbse⟩ := id hM
    have xl := ct1.xl
    have rg := ct1.rg hb
    have hq1 : ∀ x, x ∈ P → (31 ≤ x ∧ x ≤ 43) ∧ (5 : Int) ≤ rk x := q1
    have step : ∀ c a op : Int, cmOf c a op → mk σ1 c → Go p (g_X1_comparison_b70 rc F (o : Int) op σ1) σ1 F τ1 b l i D s1 (Post σ b p i fr s D o 4 m k 0 bse S bs) := by
      intro c a op har hc
      have hop : 10 ≤ op ∧ op ≤ 12 ∧ a = op + 28 := by unfold cmOf at har; omega
      have ha : 38 ≤ a ∧ a ≤ 40 := by omega
      have sl : s1 < l := ct1.lt (by have := hc.1; omega)
      unfold g_X1_comparison_b70
      obtain ⟨σ2, n1, n2, adv⟩ := j_cmp (F := F) (p := p) hF hb hp hi ct1 hm1 h411 har hc hf hcd hq1 r4' hbse tk (by omega) (by omega) (by omega)
      refine Go.eq (e_mob n1 rfl) ?_
      refine Adv.go adv (n2.fg hp) (by omega) (fun _ _ h => h) (fun s2 τ2 ct2 e2 hm2 fh2 r2 => ?_) (fun fk fp d => ?_)
      · obtain ⟨r41, rfr, rcd⟩ := r2
        obtain ⟨pre1, e41⟩ := hM.pre (bs1 := v :: bs) n2 ct2 e2 hm2 fh2 r41 rfr rcd hbg2 rfl
        have la : (a :: S).length = S.length + 1 := rfl
        have lb : (v :: bs).length = bs.length + 1 := rfl
        have rka : rk a = 4 := by
          unfold rk
          rw [if_neg (by omega), if_neg (by omega), if_neg (by omega), if_pos (by omega)]
        have preL : PreL 5 σ2 o k 1 bg' bse (a :: S) (v :: bs) := ⟨fun _ => ⟨Or.inr rfl, fun q => Or.inl (e6 q)⟩, fun q => absurd q (by decide), fun q => absurd q (by decide), fun _ => r4'.cons (by omega) (by show rk a < 5; omega), by rw [la]; show S.length + 1 ≤ 6 * o + 3; omega, by rw [lb]; show bs.length + 1 ≤ 6 * o + 3; omega⟩
        refine Go.bind (hsum σ2 τ2 s2 D k 1 bg' bse (a :: S) (v :: bs) pre1 preL) (fun _ _ h => h) (fun σ3 s3 τ3 f3 cp3 ct3 hm3 h413 xle3 fh3 post3 => ?_) (fun σ3 fk fp cp3 d => ?_)
        · obtain ⟨P2, v2, ph2, bg2, mid2, w1, w2, w3, w4, -, -, w7, -⟩ := Post.mid pre1 f3 cp3 ct3 hm3 h413 fh3 post3
          obtain ⟨e7, e8⟩ := w4 (by decide)
          have nar3 := w7 rfl
          have x3 := ct3.xl
          refine Go.emit cp3 (by omega) (fun σ4 e4 cp4 f4 e14 => ?_)
          have m3 : Mid σ4 τ3 b l p i fr s3 D o m k ph2 bg2 bse S bs (P2 ++ [a]) (decide (10 ≤ op)) := mid2.em e4 cp4 f4 e14 (okS_bin (by omega) (by omega)) (by unfold trc; rw [if_neg (by omega), if_neg (by omega), if_neg (by omega), if_neg (by omega), if_neg (by omega)]; omega) (by omega) (by omega) (by omega) (by rw [nots_app]; show o + nots P2 = o + (nots P2 + ((if a = 43 then 1 else 0) + 0)); rw [if_neg (by omega)]; rfl) hDo
          have e34 : σ4 p 4 = σ3 p 4 + 1 := by rw [e4, mup_at rfl rfl]
          have lp : (P2 ++ [a]).length = P2.length + 1 := by simp
          obtain ⟨ct4, hm4, h414, -, hf4, hcd4, hty4, -, -, -, -, hbg4, -⟩ := m3
          refine Go.ret cp4 ct4 hm4 h414 ⟨P2 ++ [a], decide (10 ≤ op), ph2, bg2, fun x hx => ?_, by rw [lp]; omega, hf4, hbg4, hcd4, hty4, by omega, fun q => absurd q (by decide), fun _ => ⟨decide_eq_true (by omega), Or.inl e7, Or.inl (fun q => nar3 ((Ar_cg e14).mp q))⟩, fun q => absurd q (by decide), fun q => absurd q (by decide), fun q => absurd q (by decide), fun q => absurd q (by decide)⟩
          rcases List.mem_append.mp hx with h | h
          · have := w1 x h
            exact ⟨this.1, by omega⟩
          · have hx' : x = a := by simpa using h
            rw [hx', rka]
            exact ⟨by omega, by omega⟩
        · exact DR.emit cp3 d (fun σ' h' d' => DR.ret h' d')
      · exact DR.bind (hd _ _ σ2 fk fp (cp1.fn n2) d) (fun σ2 cp2 d2 => DR.emit cp2 d2 (fun σ' h' d' => DR.ret h' d'))
    have c60 := c_isM (F := F) (c := 60) rg (by decide)
    have c62 := c_isM (F := F) (c := 62) rg (by decide)
    have c61 := c_isM (F := F) (c := 61) rg (by decide)
    refine Go.c c60 ?_
    by_cases h60 : mk σ1 60
    · exact Go.f (mb_n0 h60) (step 60 38 10 (Or.inl ⟨rfl, rfl, rfl⟩) h60)
    refine Go.t (mb_e0 h60) (Go.c c62 ?_)
    by_cases h62 : mk σ1 62
    · exact Go.f (mb_n0 h62) (step 62 39 11 (Or.inr (Or.inl ⟨rfl, rfl, rfl⟩)) h62)
    refine Go.t (mb_e0 h62) (Go.c c61 ?_)
    by_cases h61 : mk σ1 61
    · exact Go.f (mb_n0 h61) (step 61 40 12 (Or.inr (Or.inr ⟨rfl, rfl, rfl⟩)) h61)
    refine Go.t (mb_e0 h61) ?_
    obtain ⟨σ2, n1, n2, adv⟩ := j_nocmp (F := F) (R := fun _ => False) ct1 hm1 h411 hf tk (by omega) nar ⟨h60, h62, h61⟩
    refine Go.eq (e_mob n1 rfl) (Adv.go adv (n2.fg hp) (by omega) (fun _ _ h => h) (fun _ _ _ _ _ _ r => r.elim) (fun fk fp d => DR.ret (cp1.fn n2) d))
  · exact DR.c (c_isMd d (by decide)) (DR.t (by decide) (DR.c (c_isMd d (by decide)) (DR.t (by decide) (DR.c (c_isMd d (by decide)) (DR.t (by decide) (DR.bind (DR.ref cp1 d) (fun σ' h' d' => DR.ret h' d')))))))
theorem ok_bothL {F l p i fr o : Nat} {b : Nat → Int} {m : Int} {rc : Nat → Int → Int → mMem → mRs} (cx : Cx F l p i b) (hfact : Ok F l p i fr b m (fun o σ => rc 2 o 0 σ) 3 o) (hd : Dc p rc 2) : ∀ (fuel kk : Nat) (σ τ : mMem) (s D : Nat) (k ph0 ph bg bse : Int) (S : List Int) (bs : List Bool) (P : List Int), Mid σ τ b l p i fr s D o m k ph bg bse S bs P true → isT k → (ph = 1 ∨ ph = 2) → (¬ Ar σ ∨ ph = 2) → (∀ x, x ∈ P → (31 ≤ x ∧ x ≤ 43) ∧ (2 : Int) ≤ rk x) → P.length + o + 2 ≤ 14 → Jst S bse 2 → S.length ≤ 6 * o + 1 → bs.length ≤ 6 * o + 1 → kk ≤ xCt b s → l < fuel + xCt b s → Go p (g_X1_both_h7 rc F fuel (o : Int) (kk : Int) σ) σ F τ b l i D s (Post σ b p i fr s D o 2 m k ph0 bse S bs) := by
  obtain ⟨hF, hb, hp, hi⟩ := cx
  intro fuel
  induction fuel with
  | zero =>
    intro kk σ τ s D k ph0 ph bg bse S bs P hM _ _ _ _ _ _ _ _ _ hlt
    have := hM.1.xl
    omega
  | succ fuel ih =>
    intro kk σ τ s D k ph0 ph bg bse S bs P hM tk hph har hP hPl hJ hS hbs hkk hlt
    obtain ⟨ct, hm, h41, cp, hf, hcd, hty, h4x, hgz, hDo, hk, hbg2, hbse⟩ := id hM
    have xl := ct.xl
    have rg := ct.rg hb
    have w23 := c_isW (F := F) (c := 23) rg (by decide)
    unfold g_X1_both_h7
    by_cases hc : wd σ 23
    · have sl : s < l := ct.lt (by have := hc.1; omega)
      obtain ⟨f', rfl⟩ : ∃ f', fuel = f' + 1 := ⟨fuel - 1, by omega⟩
      refine Go.f (by rw [show mw 1600 = 1600 by decide, mw_id (by omega) (by omega)]; omega) (Go.c w23 (Go.f (mb_n0 hc) ?_))
      obtain ⟨σ1, n1, n2, adv⟩ := j_ao (F := F) (p := p) (w := 23) hF hb hp hi ct hm h41 (Or.inl ⟨rfl, rfl, rfl, rfl⟩) hc hf hph hcd hP hJ hbse tk (by omega) (by omega) (by omega)
      refine Go.eq (e_mob n1 rfl) ?_
      refine Adv.go adv (n2.fg hp) (by omega) (fun _ _ h => h) (fun s1 τ1 ct1 e1 hm1 fh1 r1 => ?_) (fun fk fp d => ?_)
      · obtain ⟨r41, rfr, rcd⟩ := r1
        obtain ⟨pre1, e41⟩ := hM.pre (bs1 := true :: bs) n2 ct1 e1 hm1 fh1 r41 rfr rcd (Or.inr rfl) rfl
        have la : ((41 : Int) :: S).length = S.length + 1 := rfl
        have lb : (true :: bs).length = bs.length + 1 := rfl
        have preL : PreL 3 σ1 o k 0 1 bse (41 :: S) (true :: bs) := ⟨fun q => absurd q (by decide), fun q => absurd q (by decide), fun _ => ⟨tk, rfl, rfl⟩, fun _ => hJ.cons (by decide) (by decide), by rw [la]; show S.length + 1 ≤ 6 * o + 2; omega, by rw [lb]; show bs.length + 1 ≤ 6 * o + 2; omega⟩
        refine Go.bind (hfact σ1 τ1 s1 D k 0 1 bse (41 :: S) (true :: bs) pre1 preL) (fun _ _ h => h) (fun σ2 s2 τ2 f2 cp2 ct2 hm2 h412 xle fh2 post => ?_) (fun σ2 fk fp cp2 d => ?_)
        · obtain ⟨P2, v2, ph2, bg2, mid2, q1, q2, q3, -, q5, -⟩ := Post.mid pre1 f2 cp2 ct2 hm2 h412 fh2 post
          obtain ⟨ev, eph, ear⟩ := q5 (by decide)
          subst ev
          have x2 := ct2.xl
          refine Go.emit cp2 (by clear eph ear; omega) (fun σ3 e3 cp3 f3 e14 => ?_)
          have m3 : Mid σ3 τ2 b l p i fr s2 D o m k ph2 bg2 bse S bs (P2 ++ [41]) true := mid2.em e3 cp3 f3 e14 (okS_ao (Or.inl rfl) (by clear eph ear; omega)) (by decide) (by decide) (by clear eph ear; omega) (by clear eph ear; omega) (by rw [nots_app]; rfl) hDo
          have e34 : σ3 p 4 = σ2 p 4 + 1 := by rw [e3, mup_at rfl rfl]
          have lp : (P2 ++ [(41 : Int)]).length = P2.length + 1 := by simp
          refine (ih (kk + 1) σ3 τ2 s2 D k ph0 ph2 bg2 bse S bs (P2 ++ [41]) m3 tk eph ?_ (fun x hx => ?_) (by rw [lp]; clear eph ear; omega) hJ hS hbs (by clear eph ear; omega) (by clear eph ear; omega)).post (fun σ' s' τ' _ _ _ _ _ _ q => q.shift (by clear eph ear; omega))
          · rcases ear with h | h
            · exact Or.inl (fun q => h ((Ar_cg e14).mp q))
            · exact Or.inr h
          · rcases List.mem_append.mp hx with h | h
            · have := q1 x h
              exact ⟨this.1, by clear eph ear; omega⟩
            · have hx' : x = 41 := by simpa using h
              rw [hx']
              exact ⟨by decide, by decide⟩
        · exact DR.emit cp2 d (fun σ' h' d' => d_bothL h' d')
      · exact DR.bind (hd _ _ σ1 fk fp (cp.fn n2) d) (fun σ2 cp2 d2 => DR.emit cp2 d2 (fun σ' h' d' => d_bothL h' d'))
    · have fin : Go p (some (0, σ)) σ F τ b l i D s (Post σ b p i fr s D o 2 m k ph0 bse S bs) := Go.ret cp ct hm h41 ⟨P, true, ph, bg, hP, hPl, hf, hbg2, hcd, hty, Int.le_refl _, fun q => absurd q (by decide), fun _ => ⟨rfl, hph, har⟩, fun q => absurd q (by decide), fun q => absurd q (by decide), fun _ => hc, fun q => absurd q (by decide)⟩
      unfold g_X1_both_b54
      by_cases ck : mw 1600 ≤ mw (kk : Int)
      · exact Go.t ck fin
      · exact Go.f ck (Go.c w23 (Go.t (mb_e0 hc) fin))
theorem ok_both {F l p i fr o : Nat} {b : Nat → Int} {m : Int} {rc : Nat → Int → Int → mMem → mRs} (cx : Cx F l p i b) (hfact : Ok F l p i fr b m (fun o σ => rc 2 o 0 σ) 3 o) (hd : Dc p rc 2) : Ok F l p i fr b m (fun o σ => g_X1_both rc F o σ) 2 o := by
  intro σ τ s D k ph bg bse S bs pre preL
  obtain ⟨-, -, r3, r4, r5, r6⟩ := preL
  obtain ⟨F', eF⟩ : ∃ F', F = F' + 1 := ⟨F - 1, by have := cx.1; omega⟩
  have r5' : S.length ≤ 6 * o + 1 := r5
  have r6' : bs.length ≤ 6 * o + 1 := r6
  have r4' : Jst S bse 2 := r4 (by decide)
  refine Go.bind (hfact σ τ s D k ph bg bse S bs pre ⟨fun q => absurd q (by decide), fun q => absurd q (by decide), fun _ => r3 (by decide), fun _ => r4'.mono (by decide), by show S.length ≤ 6 * o + 2; omega, by show bs.length ≤ 6 * o + 2; omega⟩) (fun _ _ h => h) (fun σ1 s1 τ1 f1 cp1 ct1 hm1 h411 xle fh1 post => ?_) (fun σ1 fk fp cp1 d => ?_)
  · obtain ⟨P2, v2, ph2, bg2, mid2, q1, q2, q3, -, q5, -⟩ := Post.mid pre f1 cp1 ct1 hm1 h411 fh1 post
    obtain ⟨ev, eph, ear⟩ := q5 (by decide)
    subst ev
    have xl := ct1.xl
    have hF := cx.1
    exact (ok_bothL cx hfact hd F 0 σ1 τ1 s1 D k ph ph2 bg2 bse S bs P2 mid2 (r3 (by decide)).1 eph ear (fun x hx => ⟨(q1 x hx).1, by have := (q1 x hx).2; clear eph ear; omega⟩) (by clear eph ear; omega) r4' r5' r6' (by clear eph ear; omega) (by clear eph ear; omega)).post (fun σ' s' τ' _ _ _ _ _ _ q => q.shift (by clear eph ear; omega))
  · show DR p (g_X1_both_h7 rc F F (o : Int) 0 σ1) σ1 fk fp
    rw [eF]
    exact d_bothL cp1 d
theorem ok_testL {F l p i fr o : Nat} {b : Nat → Int} {m : Int} {rc : Nat → Int → Int → mMem → mRs} (cx : Cx F l p i b) (hboth : Ok F l p i fr b m (fun o σ => rc 1 o 0 σ) 2 o) (hd : Dc p rc 1) : ∀ (fuel kk : Nat) (σ τ : mMem) (s D : Nat) (k ph0 ph bg bse : Int) (S : List Int) (bs : List Bool) (P : List Int), Mid σ τ b l p i fr s D o m k ph bg bse S bs P true → isT k → (ph = 1 ∨ ph = 2) → (¬ Ar σ ∨ ph = 2) → (∀ x, x ∈ P → (31 ≤ x ∧ x ≤ 43) ∧ (1 : Int) ≤ rk x) → P.length + o + 1 ≤ 14 → Jst S bse 1 → S.length ≤ 6 * o → bs.length ≤ 6 * o → ¬ wd σ 23 → kk ≤ xCt b s → l < fuel + xCt b s → Go p (g_X1_test_h7 rc F fuel (o : Int) (kk : Int) σ) σ F τ b l i D s (Post σ b p i fr s D o 1 m k ph0 bse S bs) := by
  obtain ⟨hF, hb, hp, hi⟩ := cx
  intro fuel
  induction fuel with
  | zero =>
    intro kk σ τ s D k ph0 ph bg bse S bs P hM _ _ _ _ _ _ _ _ _ _ hlt
    have := hM.1.xl
    omega
  | succ fuel ih =>
    intro kk σ τ s D k ph0 ph bg bse S bs P hM tk hph har hP hPl hJ hS hbs hno hkk hlt
    obtain ⟨ct, hm, h41, cp, hf, hcd, hty, h4x, hgz, hDo, hk, hbg2, hbse⟩ := id hM
    have xl := ct.xl
    have rg := ct.rg hb
    have w22 := c_isW (F := F) (c := 22) rg (by decide)
    unfold g_X1_test_h7
    by_cases hc : wd σ 22
    · have sl : s < l := ct.lt (by have := hc.1; omega)
      obtain ⟨f', rfl⟩ : ∃ f', fuel = f' + 1 := ⟨fuel - 1, by omega⟩
      refine Go.f (by rw [show mw 1600 = 1600 by decide, mw_id (by omega) (by omega)]; omega) (Go.c w22 (Go.f (mb_n0 hc) ?_))
      obtain ⟨σ1, n1, n2, adv⟩ := j_ao (F := F) (p := p) (w := 22) hF hb hp hi ct hm h41 (Or.inr ⟨rfl, rfl, rfl, rfl⟩) hc hf hph hcd hP hJ hbse tk (by omega) (by omega) (by omega)
      refine Go.eq (e_mob n1 rfl) ?_
      refine Adv.go adv (n2.fg hp) (by omega) (fun _ _ h => h) (fun s1 τ1 ct1 e1 hm1 fh1 r1 => ?_) (fun fk fp d => ?_)
      · obtain ⟨r41, rfr, rcd⟩ := r1
        obtain ⟨pre1, e41⟩ := hM.pre (bs1 := true :: bs) n2 ct1 e1 hm1 fh1 r41 rfr rcd (Or.inr rfl) rfl
        have la : ((42 : Int) :: S).length = S.length + 1 := rfl
        have lb : (true :: bs).length = bs.length + 1 := rfl
        have preL : PreL 2 σ1 o k 0 1 bse (42 :: S) (true :: bs) := ⟨fun q => absurd q (by decide), fun q => absurd q (by decide), fun _ => ⟨tk, rfl, rfl⟩, fun _ => hJ.cons (by decide) (by decide), by rw [la]; show S.length + 1 ≤ 6 * o + 1; omega, by rw [lb]; show bs.length + 1 ≤ 6 * o + 1; omega⟩
        refine Go.bind (hboth σ1 τ1 s1 D k 0 1 bse (42 :: S) (true :: bs) pre1 preL) (fun _ _ h => h) (fun σ2 s2 τ2 f2 cp2 ct2 hm2 h412 xle fh2 post => ?_) (fun σ2 fk fp cp2 d => ?_)
        · obtain ⟨P2, v2, ph2, bg2, mid2, q1, q2, q3, -, q5, -, -, q8, -⟩ := Post.mid pre1 f2 cp2 ct2 hm2 h412 fh2 post
          obtain ⟨ev, eph, ear⟩ := q5 (by decide)
          subst ev
          have x2 := ct2.xl
          refine Go.emit cp2 (by clear eph ear; omega) (fun σ3 e3 cp3 f3 e14 => ?_)
          have m3 : Mid σ3 τ2 b l p i fr s2 D o m k ph2 bg2 bse S bs (P2 ++ [42]) true := mid2.em e3 cp3 f3 e14 (okS_ao (Or.inr rfl) (by clear eph ear; omega)) (by decide) (by decide) (by clear eph ear; omega) (by clear eph ear; omega) (by rw [nots_app]; rfl) hDo
          have e34 : σ3 p 4 = σ2 p 4 + 1 := by rw [e3, mup_at rfl rfl]
          have lp : (P2 ++ [(42 : Int)]).length = P2.length + 1 := by simp
          refine (ih (kk + 1) σ3 τ2 s2 D k ph0 ph2 bg2 bse S bs (P2 ++ [42]) m3 tk eph ?_ (fun x hx => ?_) (by rw [lp]; clear eph ear; omega) hJ hS hbs (fun q => q8 (by decide) ((wd_cg e14).mp q)) (by clear eph ear; omega) (by clear eph ear; omega)).post (fun σ' s' τ' _ _ _ _ _ _ q => q.shift (by clear eph ear; omega))
          · rcases ear with h | h
            · exact Or.inl (fun q => h ((Ar_cg e14).mp q))
            · exact Or.inr h
          · rcases List.mem_append.mp hx with h | h
            · have := q1 x h
              exact ⟨this.1, by clear eph ear; omega⟩
            · have hx' : x = 42 := by simpa using h
              rw [hx']
              exact ⟨by decide, by decide⟩
        · exact DR.emit cp2 d (fun σ' h' d' => d_testL h' d')
      · exact DR.bind (hd _ _ σ1 fk fp (cp.fn n2) d) (fun σ2 cp2 d2 => DR.emit cp2 d2 (fun σ' h' d' => d_testL h' d'))
    · have fin : Go p (some (0, σ)) σ F τ b l i D s (Post σ b p i fr s D o 1 m k ph0 bse S bs) := Go.ret cp ct hm h41 ⟨P, true, ph, bg, hP, hPl, hf, hbg2, hcd, hty, Int.le_refl _, fun q => absurd q (by decide), fun _ => ⟨rfl, hph, har⟩, fun q => absurd q (by decide), fun q => absurd q (by decide), fun _ => hno, fun _ => hc⟩
      unfold g_X1_test_b54
      by_cases ck : mw 1600 ≤ mw (kk : Int)
      · exact Go.t ck fin
      · exact Go.f ck (Go.c w22 (Go.t (mb_e0 hc) fin))
theorem ok_test {F l p i fr o : Nat} {b : Nat → Int} {m : Int} {rc : Nat → Int → Int → mMem → mRs} (cx : Cx F l p i b) (hboth : Ok F l p i fr b m (fun o σ => rc 1 o 0 σ) 2 o) (hd : Dc p rc 1) : Ok F l p i fr b m (fun o σ => g_X1_test rc F o σ) 1 o := by
  intro σ τ s D k ph bg bse S bs pre preL
  obtain ⟨-, -, r3, r4, r5, r6⟩ := preL
  obtain ⟨F', eF⟩ : ∃ F', F = F' + 1 := ⟨F - 1, by have := cx.1; omega⟩
  have r5' : S.length ≤ 6 * o := r5
  have r6' : bs.length ≤ 6 * o := r6
  have r4' : Jst S bse 1 := r4 (by decide)
  refine Go.bind (hboth σ τ s D k ph bg bse S bs pre ⟨fun q => absurd q (by decide), fun q => absurd q (by decide), fun _ => r3 (by decide), fun _ => r4'.mono (by decide), by show S.length ≤ 6 * o + 1; omega, by show bs.length ≤ 6 * o + 1; omega⟩) (fun _ _ h => h) (fun σ1 s1 τ1 f1 cp1 ct1 hm1 h411 xle fh1 post => ?_) (fun σ1 fk fp cp1 d => ?_)
  · obtain ⟨P2, v2, ph2, bg2, mid2, q1, q2, q3, -, q5, -, -, q8, -⟩ := Post.mid pre f1 cp1 ct1 hm1 h411 fh1 post
    obtain ⟨ev, eph, ear⟩ := q5 (by decide)
    subst ev
    have xl := ct1.xl
    have hF := cx.1
    exact (ok_testL cx hboth hd F 0 σ1 τ1 s1 D k ph ph2 bg2 bse S bs P2 mid2 (r3 (by decide)).1 eph ear (fun x hx => ⟨(q1 x hx).1, by have := (q1 x hx).2; clear eph ear; omega⟩) (by clear eph ear; omega) r4' r5' r6' (q8 (by decide)) (by clear eph ear; omega) (by clear eph ear; omega)).post (fun σ' s' τ' _ _ _ _ _ _ q => q.shift (by clear eph ear; omega))
  · show DR p (g_X1_test_h7 rc F F (o : Int) 0 σ1) σ1 fk fp
    rw [eF]
    exact d_testL cp1 d
