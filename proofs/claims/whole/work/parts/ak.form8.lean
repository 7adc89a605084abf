/-! LAYER 2: kitchen, formulas: PRODUCT, SUM -/
def Mid (σ τ : mMem) (b : Nat → Int) (l p i fr s D o : Nat) (m k ph bg bse : Int) (S : List Int) (bs : List Bool) (P : List Int) (v : Bool) : Prop := CTk σ b l s ∧ Mt σ τ b l ∧ τ 86 41 = 1 ∧ CP σ p ∧ Fr τ i D (o + nots P) k ph bg bse (P ++ S) ∧ Cd σ τ p i P ∧ TyC σ p fr m (v :: bs) ∧ σ p 4 ≤ (xCt b s : Int) ∧ Gz σ τ m ∧ (D ≤ o ∧ o ≤ 7) ∧ (0 ≤ k ∧ k ≤ 6) ∧ (bg = 0 ∨ bg = 1) ∧ 0 ≤ bse
theorem FG.r19 {σ' σ : mMem} {p : Nat} (f : FG σ' σ p) (hp : p = 3 ∨ p = 8) : σ' 19 = σ 19 := f.1 19 (by omega) (by omega) (by omega)
theorem Post.mid {σ σ1 τ τ1 : mMem} {b : Nat → Int} {l p i fr s s1 D o L : Nat} {m k ph bg bse : Int} {S : List Int} {bs : List Bool} (h : Pre σ τ b l p i fr s D o m k ph bg bse S bs) (f : FG σ1 σ p) (cp : CP σ1 p) (ct : CTk σ1 b l s1) (hm : Mt σ1 τ1 b l) (h41 : τ1 86 41 = 1) (fh : FH τ1 τ i D) (q : Post σ b p i fr s D o L m k ph bse S bs σ1 s1 τ1) : ∃ P v ph' bg', Mid σ1 τ1 b l p i fr s1 D o m k ph' bg' bse S bs P v ∧ (∀ x, x ∈ P → (31 ≤ x ∧ x ≤ 43) ∧ (L : Int) ≤ rk x) ∧ P.length + o + L ≤ 14 ∧ σ1 p 4 + (xCt b s : Int) ≤ σ p 4 + (xCt b s1 : Int) ∧ (5 ≤ L → ph' = ph ∧ (isT k → bg' = 0)) ∧ (L ≤ 4 → v = true ∧ (ph' = 1 ∨ ph' = 2) ∧ (¬ Ar σ1 ∨ ph' = 2)) ∧ (L = 6 → ¬ mk σ1 42 ∧ ¬ mk σ1 47 ∧ ¬ mk σ1 37) ∧ (L = 5 → ¬ Ar σ1) ∧ (L ≤ 2 → ¬ wd σ1 23) ∧ (L ≤ 1 → ¬ wd σ1 22) := by
  obtain ⟨P, v, ph', bg', a1, a2, a3, a4, a5, a6, a7, a8⟩ := q
  obtain ⟨h1, h2, h3, h4, h5, h6, h7, h8, h9, h10, h11, h12, h13⟩ := h
  exact ⟨P, v, ph', bg', ⟨ct, hm, h41, cp, a3, a5, a6, by omega, h9.cg (f.r19 h4.1) (fh.2.1 31 (by decide)), h10, h11, a4, h13⟩, a1, a2, a7, a8⟩
/-- behind an operator that is held back -/
theorem Mid.pre {σ σ1 τ τ1 : mMem} {b : Nat → Int} {l p i fr s s1 D o : Nat} {m k ph bg bse ph1 bg1 : Int} {S : List Int} {bs bs1 : List Bool} {P S1 : List Int} {v : Bool} (h : Mid σ τ b l p i fr s D o m k ph bg bse S bs P v) (n2 : FN σ1 σ) (ct : CTk σ1 b l s1) (e : xCt b s1 = xCt b s + 1) (hm : Mt σ1 τ1 b l) (fh : FH τ1 τ i D) (h41 : τ1 86 41 = 0) (fr1 : Fr τ1 i D o k ph1 bg1 bse S1) (cd1 : Cd σ1 τ1 p i []) (hbg : bg1 = 0 ∨ bg1 = 1) (hbs : bs1 = v :: bs) : Pre σ1 τ1 b l p i fr s1 D o m k ph1 bg1 bse S1 bs1 ∧ σ1 p 4 = σ p 4 := by
  obtain ⟨h1, h2, h3, h4, h5, h6, h7, h8, h9, h10, h11, h12, h13⟩ := h
  have e4 : σ1 p = σ p := n2.1 p (np14 h4.1)
  subst hbs
  exact ⟨⟨ct, hm, h41, h4.fn n2, fr1, cd1, h7.fn n2 h4.1, by rw [e4]; omega, h9.cg (n2.1 19 (by decide)) (fh.2.1 31 (by decide)), h10, h11, hbg, h13⟩, by rw [e4]⟩
/-- the class writes an operator: it waits -/
theorem Mid.em {σ σ' τ : mMem} {b : Nat → Int} {l p i fr s D o o' : Nat} {m k ph bg bse op a : Int} {S P : List Int} {bs bs0 : List Bool} {v v' : Bool} (h : Mid σ τ b l p i fr s D o' m k ph bg bse (a :: S) bs0 P v) (e : σ' = mup (mup σ (p + 4) (σ p 4).toNat (0 * 16 + op)) p 4 (σ p 4 + 1)) (cp : CP σ' p) (f : FG σ' σ p) (e14 : σ' 14 = σ 14) (ho : okS (v :: bs0) (0 * 16 + op) = some (v' :: bs)) (hop : trc a 0 = 0 * 16 + op) (h1 : ¬ op % 16 = 1) (hl : σ p 4 + 1 ≤ (xCt b s : Int)) (hx : xCt b s ≤ 1600) (hn : o' + nots P = o + nots (P ++ [a])) (hD : D ≤ o ∧ o ≤ 7) : Mid σ' τ b l p i fr s D o m k ph bg bse S bs (P ++ [a]) v' := by
  obtain ⟨g1, g2, g3, g4, g5, g6, g7, g8, g9, g10, g11, g12, g13⟩ := h
  have hp := g4.1
  have e4 : σ' p 4 = σ p 4 + 1 := by rw [e, mup_at rfl rfl]
  refine ⟨g1.em f e14 hp, g2.em f e14 hp, g3, cp, ?_, ?_, g7.em e ho (fun q => absurd q (by omega)), by omega, g9.cg (f.r19 hp) rfl, hD, g11, g12, g13⟩
  · rw [hn, show P ++ a :: S = P ++ [a] ++ S by simp] at g5
    exact g5
  · exact g6.em (by omega) (by rw [hop]; exact e)
theorem c_pS {F : Nat} {σ : mMem} (rg : (0 ≤ σ 14 7 ∧ σ 14 7 ≤ 4) ∧ 0 ≤ σ 14 9 ∧ σ 14 9 ≤ 2000000000) : (mk σ 42 → g_X1_productSign F σ = some (5, σ)) ∧ (mk σ 47 → g_X1_productSign F σ = some (6, σ)) ∧ (mk σ 37 → g_X1_productSign F σ = some (7, σ)) ∧ ((¬ mk σ 42 ∧ ¬ mk σ 47 ∧ ¬ mk σ 37) → g_X1_productSign F σ = some (-1, σ)) := by
  unfold g_X1_productSign g_X1_productSign_b47
  have c42 := c_isM (F := F) (c := 42) rg (by decide)
  have c47 := c_isM (F := F) (c := 47) rg (by decide)
  have c37 := c_isM (F := F) (c := 37) rg (by decide)
  refine ⟨fun h => ?_, fun h => ?_, fun h => ?_, fun h => ?_⟩
  · exact e_mob c42 (e_f (mb_n0 h) rfl)
  · exact e_mob c42 (e_t (mb_e0 (by omega)) (e_mob c47 (e_f (mb_n0 h) rfl)))
  · exact e_mob c42 (e_t (mb_e0 (by omega)) (e_mob c47 (e_t (mb_e0 (by omega)) (e_mob c37 (e_f (mb_n0 h) rfl)))))
  · exact e_mob c42 (e_t (mb_e0 h.1) (e_mob c47 (e_t (mb_e0 h.2.1) (e_mob c37 (e_t (mb_e0 h.2.2) rfl)))))
theorem mk_cg {σ σ' : mMem} {c : Int} (e : σ' 14 = σ 14) : mk σ' c ↔ mk σ c := by
  unfold mk
  rw [e]
theorem wd_cg {σ σ' : mMem} {c : Int} (e : σ' 14 = σ 14) : wd σ' c ↔ wd σ c := by
  unfold wd
  rw [e]
theorem Ar_cg {σ σ' : mMem} (e : σ' 14 = σ 14) : Ar σ' ↔ Ar σ := by
  unfold Ar mk
  rw [e]
theorem P7_nil {P : List Int} (h : ∀ x, x ∈ P → (31 ≤ x ∧ x ≤ 43) ∧ ((7 : Nat) : Int) ≤ rk x) : P = [] := by
  cases P with
  | nil => rfl
  | cons a t =>
    have := (h a (List.mem_cons_self ..)).2
    have := rk_pos a
    omega
theorem ok_prodL {F l p i fr o : Nat} {b : Nat → Int} {m : Int} {rc : Nat → Int → Int → mMem → mRs} (cx : Cx F l p i b) (hpart : Ok F l p i fr b m (fun o σ => rc 6 o 0 σ) 7 o) (hd : Dc p rc 6) : ∀ (fuel kk : Nat) (σ τ : mMem) (s D : Nat) (k ph bg bse : Int) (S : List Int) (bs : List Bool) (P : List Int) (v : Bool), Mid σ τ b l p i fr s D o m k ph bg bse S bs P v → (ph = 0 ∨ ph = 1) → (isT k → bg = 0) → (∀ x, x ∈ P → (31 ≤ x ∧ x ≤ 43) ∧ (6 : Int) ≤ rk x) → P.length + o + 6 ≤ 14 → Jst S bse 6 → S.length ≤ 6 * o + 4 → bs.length ≤ 6 * o + 4 → kk ≤ xCt b s → l < fuel + xCt b s → Go p (mob (g_X1_productSign F σ) (fun r σ' => g_X1_product_h12 rc F fuel (o : Int) r (kk : Int) σ')) σ F τ b l i D s (Post σ b p i fr s D o 6 m k ph bse S bs) := by
  obtain ⟨hF, hb, hp, hi⟩ := cx
  intro fuel
  induction fuel with
  | zero =>
    intro kk σ τ s D k ph bg bse S bs P v hM _ _ _ _ _ _ _ _ hlt
    have := hM.1.xl
    omega
  | succ fuel ih =>
    intro kk σ τ s D k ph bg bse S bs P v hM hph hbg hP hPl hJ hS hbs hkk hlt
    obtain ⟨ct, hm, h41, cp, hf, hcd, hty, h4x, hgz, hDo, hk, hbg2, hbse⟩ := id hM
    have xl := ct.xl
    have rg := ct.rg hb
    have pS := c_pS (F := F) rg
    have step : ∀ c a op : Int, arOf c a 6 op → mk σ c → g_X1_productSign F σ = some (op, σ) → Go p (mob (g_X1_productSign F σ) (fun r σ' => g_X1_product_h12 rc F (fuel + 1) (o : Int) r (kk : Int) σ')) σ F τ b l i D s (Post σ b p i fr s D o 6 m k ph bse S bs) := by
      intro c a op har hc eS
      have hop : 5 ≤ op ∧ op ≤ 7 ∧ a = op + 28 := by unfold arOf at har; omega
      have ha : 33 ≤ a ∧ a ≤ 35 := by omega
      have sl : s < l := ct.lt (by have := hc.1; omega)
      obtain ⟨f', rfl⟩ : ∃ f', fuel = f' + 1 := ⟨fuel - 1, by omega⟩
      refine Go.c eS ?_
      unfold g_X1_product_h12
      refine Go.f (by rw [show mw 1600 = 1600 by decide, mw_id (by omega) (by omega)]; omega) (Go.f (by rw [mw_m1, mw_id (by omega) (by omega)]; omega) ?_)
      obtain ⟨σ1, n1, n2, adv⟩ := j_ar (F := F) (p := p) hF hb hp hi ct hm h41 har hc hf hcd hP hJ hbse hk (by omega) (by omega) (by omega) (by omega)
      refine Go.eq (e_mob n1 rfl) ?_
      refine Adv.go adv (n2.fg hp) (by omega) (fun _ _ h => h) (fun s1 τ1 ct1 e1 hm1 fh1 r1 => ?_) (fun fk fp d => ?_)
      · obtain ⟨r41, rfr, rcd⟩ := r1
        obtain ⟨pre1, e41⟩ := hM.pre (bs1 := v :: bs) n2 ct1 e1 hm1 fh1 r41 rfr rcd hbg2 rfl
        have la : (a :: S).length = S.length + 1 := rfl
        have lb : (v :: bs).length = bs.length + 1 := rfl
        have preL : PreL 7 σ1 o k ph bg bse (a :: S) (v :: bs) := ⟨fun _ => ⟨hph, fun q => Or.inl (hbg q)⟩, fun q => absurd q (by decide), fun q => absurd q (by decide), fun q => absurd q (by decide), by rw [la]; show S.length + 1 ≤ 6 * o + 5; omega, by rw [lb]; show bs.length + 1 ≤ 6 * o + 5; omega⟩
        refine Go.bind (hpart σ1 τ1 s1 D k ph bg bse (a :: S) (v :: bs) pre1 preL) (fun _ _ h => h) (fun σ2 s2 τ2 f2 cp2 ct2 hm2 h412 xle fh2 post => ?_) (fun σ2 fk fp cp2 d => ?_)
        · obtain ⟨P2, v2, ph2, bg2, mid2, q1, q2, q3, q4, -⟩ := Post.mid pre1 f2 cp2 ct2 hm2 h412 fh2 post
          have := P7_nil q1
          subst this
          obtain ⟨e5, e6⟩ := q4 (by decide)
          have x2 := ct2.xl
          refine Go.emit cp2 (by omega) (fun σ3 e3 cp3 f3 e14 => ?_)
          have m3 : Mid σ3 τ2 b l p i fr s2 D o m k ph2 bg2 bse S bs ([] ++ [a]) (decide (10 ≤ op)) := mid2.em e3 cp3 f3 e14 (okS_bin (by omega) (by omega)) (by unfold trc; rw [if_neg (by omega), if_neg (by omega), if_neg (by omega), if_neg (by omega), if_neg (by omega)]; omega) (by omega) (by omega) (by omega) (by show o + 0 = o + ((if a = 43 then 1 else 0) + 0); rw [if_neg (by omega)]) hDo
          have e34 : σ3 p 4 = σ2 p 4 + 1 := by rw [e3, mup_at rfl rfl]
          subst e5
          refine (ih (kk + 1) σ3 τ2 s2 D k ph2 bg2 bse S bs ([] ++ [a]) _ m3 hph e6 (fun x hx => ?_) (by show 1 + o + 6 ≤ 14; omega) hJ hS hbs (by omega) (by omega)).post (fun σ' s' τ' _ _ _ _ _ _ q => q.shift (by omega))
          have hx' : x = a := by simpa using hx
          rw [hx']
          refine ⟨by omega, ?_⟩
          unfold rk
          rw [if_neg (by omega), if_neg (by omega), if_neg (by omega), if_neg (by omega), if_neg (by omega)]
          decide
        · exact DR.emit cp2 d (fun σ' h' d' => DR.eq (e_mob (c_pSd d') rfl) (d_prodL h' d'))
      · exact DR.bind (hd _ _ σ1 fk fp (cp.fn n2) d) (fun σ2 cp2 d2 => DR.emit cp2 d2 (fun σ' h' d' => DR.eq (e_mob (c_pSd d') rfl) (d_prodL h' d')))
    by_cases c42 : mk σ 42
    · exact step 42 33 5 (Or.inr (Or.inr (Or.inl ⟨rfl, rfl, rfl, rfl⟩))) c42 (pS.1 c42)
    by_cases c47 : mk σ 47
    · exact step 47 34 6 (Or.inr (Or.inr (Or.inr (Or.inl ⟨rfl, rfl, rfl, rfl⟩)))) c47 (pS.2.1 c47)
    by_cases c37 : mk σ 37
    · exact step 37 35 7 (Or.inr (Or.inr (Or.inr (Or.inr ⟨rfl, rfl, rfl, rfl⟩)))) c37 (pS.2.2.1 c37)
    refine Go.c (pS.2.2.2 ⟨c42, c47, c37⟩) ?_
    unfold g_X1_product_h12 g_X1_product_b56
    have fin : Go p (some (0, σ)) σ F τ b l i D s (Post σ b p i fr s D o 6 m k ph bse S bs) := Go.ret cp ct hm h41 ⟨P, v, ph, bg, hP, hPl, hf, hbg2, hcd, hty, Int.le_refl _, fun _ => ⟨rfl, hbg⟩, fun q => absurd q (by decide), fun _ => ⟨c42, c47, c37⟩, fun q => absurd q (by decide), fun q => absurd q (by decide), fun q => absurd q (by decide)⟩
    by_cases ck : mw 1600 ≤ mw (kk : Int)
    · exact Go.t ck fin
    · exact Go.f ck (Go.t rfl fin)
theorem ok_prod {F l p i fr o : Nat} {b : Nat → Int} {m : Int} {rc : Nat → Int → Int → mMem → mRs} (cx : Cx F l p i b) (hpart : Ok F l p i fr b m (fun o σ => rc 6 o 0 σ) 7 o) (hd : Dc p rc 6) : Ok F l p i fr b m (fun o σ => g_X1_product rc F o σ) 6 o := by
  intro σ τ s D k ph bg bse S bs pre preL
  obtain ⟨r1, -, -, r4, r5, r6⟩ := preL
  obtain ⟨F', eF⟩ : ∃ F', F = F' + 1 := ⟨F - 1, by have := cx.1; omega⟩
  have r5' : S.length ≤ 6 * o + 4 := r5
  have r6' : bs.length ≤ 6 * o + 4 := r6
  refine Go.bind (hpart σ τ s D k ph bg bse S bs pre ⟨fun _ => r1 (by decide), fun q => absurd q (by decide), fun q => absurd q (by decide), fun q => absurd q (by decide), by show S.length ≤ 6 * o + 5; omega, by show bs.length ≤ 6 * o + 5; omega⟩) (fun _ _ h => h) (fun σ1 s1 τ1 f1 cp1 ct1 hm1 h411 xle fh1 post => ?_) (fun σ1 fk fp cp1 d => ?_)
  · obtain ⟨P2, v2, ph2, bg2, mid2, q1, q2, q3, q4, -⟩ := Post.mid pre f1 cp1 ct1 hm1 h411 fh1 post
    have := P7_nil q1
    subst this
    obtain ⟨e5, e6⟩ := q4 (by decide)
    subst e5
    have xl := ct1.xl
    have hF := cx.1
    refine (ok_prodL cx hpart hd F 0 σ1 τ1 s1 D k ph2 bg2 bse S bs [] v2 mid2 (r1 (by decide)).1 e6 (fun x hx => by cases hx) (by have := pre.2.2.2.2.2.2.2.2.2.1; show 0 + o + 6 ≤ 14; omega) (r4 (by decide)) r5' r6' (by omega) (by omega)).post (fun σ' s' τ' _ _ _ _ _ _ q => q.shift (by omega))
  · refine DR.eq (e_mob (c_pSd d) rfl) ?_
    rw [eF]
    exact d_prodL cp1 d
theorem ok_sumL {F l p i fr o : Nat} {b : Nat → Int} {m : Int} {rc : Nat → Int → Int → mMem → mRs} (cx : Cx F l p i b) (hprod : Ok F l p i fr b m (fun o σ => rc 5 o 0 σ) 6 o) (hd : Dc p rc 5) : ∀ (fuel kk : Nat) (σ τ : mMem) (s D : Nat) (k ph bg bse : Int) (S : List Int) (bs : List Bool) (P : List Int) (v : Bool), Mid σ τ b l p i fr s D o m k ph bg bse S bs P v → (ph = 0 ∨ ph = 1) → (isT k → bg = 0) → (∀ x, x ∈ P → (31 ≤ x ∧ x ≤ 43) ∧ (5 : Int) ≤ rk x) → P.length + o + 5 ≤ 14 → Jst S bse 5 → S.length ≤ 6 * o + 3 → bs.length ≤ 6 * o + 3 → (¬ mk σ 42 ∧ ¬ mk σ 47 ∧ ¬ mk σ 37) → kk ≤ xCt b s → l < fuel + xCt b s → Go p (g_X1_sum_h7 rc F fuel (o : Int) (kk : Int) σ) σ F τ b l i D s (Post σ b p i fr s D o 5 m k ph bse S bs) := by
  obtain ⟨hF, hb, hp, hi⟩ := cx
  intro fuel
  induction fuel with
  | zero =>
    intro kk σ τ s D k ph bg bse S bs P v hM _ _ _ _ _ _ _ _ _ hlt
    have := hM.1.xl
    omega
  | succ fuel ih =>
    intro kk σ τ s D k ph bg bse S bs P v hM hph hbg hP hPl hJ hS hbs hno hkk hlt
    obtain ⟨ct, hm, h41, cp, hf, hcd, hty, h4x, hgz, hDo, hk, hbg2, hbse⟩ := id hM
    have xl := ct.xl
    have rg := ct.rg hb
    have c43 := c_isM (F := F) (c := 43) rg (by decide)
    have c45 := c_isM (F := F) (c := 45) rg (by decide)
    have step : ∀ c a op : Int, arOf c a 5 op → mk σ c → Go p (g_X1_sum_b55 rc F (g_X1_sum_h7 rc F fuel) (o : Int) (kk : Int) op σ) σ F τ b l i D s (Post σ b p i fr s D o 5 m k ph bse S bs) := by
      intro c a op har hc
      have hop : 3 ≤ op ∧ op ≤ 4 ∧ a = op + 28 := by unfold arOf at har; omega
      have ha : 31 ≤ a ∧ a ≤ 32 := by omega
      have sl : s < l := ct.lt (by have := hc.1; omega)
      obtain ⟨f', rfl⟩ : ∃ f', fuel = f' + 1 := ⟨fuel - 1, by omega⟩
      unfold g_X1_sum_b55
      obtain ⟨σ1, n1, n2, adv⟩ := j_ar (F := F) (p := p) hF hb hp hi ct hm h41 har hc hf hcd hP hJ hbse hk (by omega) (by omega) (by omega) (by omega)
      refine Go.eq (e_mob n1 rfl) ?_
      refine Adv.go adv (n2.fg hp) (by omega) (fun _ _ h => h) (fun s1 τ1 ct1 e1 hm1 fh1 r1 => ?_) (fun fk fp d => ?_)
      · obtain ⟨r41, rfr, rcd⟩ := r1
        obtain ⟨pre1, e41⟩ := hM.pre (bs1 := v :: bs) n2 ct1 e1 hm1 fh1 r41 rfr rcd hbg2 rfl
        have la : (a :: S).length = S.length + 1 := rfl
        have lb : (v :: bs).length = bs.length + 1 := rfl
        have rka : rk a = 5 := by
          unfold rk
          rw [if_neg (by omega), if_neg (by omega), if_neg (by omega), if_neg (by omega), if_pos (by omega)]
        have preL : PreL 6 σ1 o k ph bg bse (a :: S) (v :: bs) := ⟨fun _ => ⟨hph, fun q => Or.inl (hbg q)⟩, fun q => absurd q (by decide), fun q => absurd q (by decide), fun _ => hJ.cons (by omega) (by show rk a < 6; omega), by rw [la]; show S.length + 1 ≤ 6 * o + 4; omega, by rw [lb]; show bs.length + 1 ≤ 6 * o + 4; omega⟩
        refine Go.bind (hprod σ1 τ1 s1 D k ph bg bse (a :: S) (v :: bs) pre1 preL) (fun _ _ h => h) (fun σ2 s2 τ2 f2 cp2 ct2 hm2 h412 xle fh2 post => ?_) (fun σ2 fk fp cp2 d => ?_)
        · obtain ⟨P2, v2, ph2, bg2, mid2, q1, q2, q3, q4, -, q6, -⟩ := Post.mid pre1 f2 cp2 ct2 hm2 h412 fh2 post
          obtain ⟨e5, e6⟩ := q4 (by decide)
          have no2 := q6 rfl
          have x2 := ct2.xl
          refine Go.emit cp2 (by omega) (fun σ3 e3 cp3 f3 e14 => ?_)
          have m3 : Mid σ3 τ2 b l p i fr s2 D o m k ph2 bg2 bse S bs (P2 ++ [a]) (decide (10 ≤ op)) := mid2.em e3 cp3 f3 e14 (okS_bin (by omega) (by omega)) (by unfold trc; rw [if_neg (by omega), if_neg (by omega), if_neg (by omega), if_neg (by omega), if_neg (by omega)]; omega) (by omega) (by omega) (by omega) (by rw [nots_app]; show o + nots P2 = o + (nots P2 + ((if a = 43 then 1 else 0) + 0)); rw [if_neg (by omega)]; rfl) hDo
          have e34 : σ3 p 4 = σ2 p 4 + 1 := by rw [e3, mup_at rfl rfl]
          have lp : (P2 ++ [a]).length = P2.length + 1 := by simp
          subst e5
          refine (ih (kk + 1) σ3 τ2 s2 D k ph2 bg2 bse S bs (P2 ++ [a]) _ m3 hph e6 (fun x hx => ?_) (by rw [lp]; omega) hJ hS hbs ⟨fun q => no2.1 ((mk_cg e14).mp q), fun q => no2.2.1 ((mk_cg e14).mp q), fun q => no2.2.2 ((mk_cg e14).mp q)⟩ (by omega) (by omega)).post (fun σ' s' τ' _ _ _ _ _ _ q => q.shift (by omega))
          rcases List.mem_append.mp hx with h | h
          · have := q1 x h
            exact ⟨this.1, by omega⟩
          · have hx' : x = a := by simpa using h
            rw [hx', rka]
            exact ⟨by omega, by omega⟩
        · exact DR.emit cp2 d (fun σ' h' d' => d_sumL h' d')
      · exact DR.bind (hd _ _ σ1 fk fp (cp.fn n2) d) (fun σ2 cp2 d2 => DR.emit cp2 d2 (fun σ' h' d' => d_sumL h' d'))
    unfold g_X1_sum_h7
    by_cases c1 : mk σ 43
    · have sl : s < l := ct.lt (by have := c1.1; omega)
      refine Go.f (by rw [show mw 1600 = 1600 by decide, mw_id (by omega) (by omega)]; omega) (Go.c c43 (Go.t (mb_n0 c1) ?_))
      unfold g_X1_sum_b38
      exact Go.c c43 (Go.f (mb_n0 c1) (step 43 31 3 (Or.inl ⟨rfl, rfl, rfl, rfl⟩) c1))
    by_cases c2 : mk σ 45
    · have sl : s < l := ct.lt (by have := c2.1; omega)
      refine Go.f (by rw [show mw 1600 = 1600 by decide, mw_id (by omega) (by omega)]; omega) (Go.c c43 (Go.f (mb_nn0 c1) (Go.c c45 (Go.f (mb_n0 c2) ?_))))
      unfold g_X1_sum_b38
      exact Go.c c43 (Go.t (mb_e0 c1) (step 45 32 4 (Or.inr (Or.inl ⟨rfl, rfl, rfl, rfl⟩)) c2))
    have fin : Go p (some (0, σ)) σ F τ b l i D s (Post σ b p i fr s D o 5 m k ph bse S bs) := Go.ret cp ct hm h41 ⟨P, v, ph, bg, hP, hPl, hf, hbg2, hcd, hty, Int.le_refl _, fun _ => ⟨rfl, hbg⟩, fun q => absurd q (by decide), fun q => absurd q (by decide), fun _ q => by
      rcases q with q | q | q | q | q
      · exact c1 q
      · exact c2 q
      · exact hno.1 q
      · exact hno.2.1 q
      · exact hno.2.2 q, fun q => absurd q (by decide), fun q => absurd q (by decide)⟩
    unfold g_X1_sum_b83
    by_cases ck : mw 1600 ≤ mw (kk : Int)
    · exact Go.t ck fin
    · exact Go.f ck (Go.c c43 (Go.f (mb_nn0 c1) (Go.c c45 (Go.t (mb_e0 c2) fin))))
theorem ok_sum {F l p i fr o : Nat} {b : Nat → Int} {m : Int} {rc : Nat → Int → Int → mMem → mRs} (cx : Cx F l p i b) (hprod : Ok F l p i fr b m (fun o σ => rc 5 o 0 σ) 6 o) (hd : Dc p rc 5) : Ok F l p i fr b m (fun o σ => g_X1_sum rc F o σ) 5 o := by
  intro σ τ s D k ph bg bse S bs pre preL
  obtain ⟨r1, -, -, r4, r5, r6⟩ := preL
  obtain ⟨F', eF⟩ : ∃ F', F = F' + 1 := ⟨F - 1, by have := cx.1; omega⟩
  have r5' : S.length ≤ 6 * o + 3 := r5
  have r6' : bs.length ≤ 6 * o + 3 := r6
  have r4' : Jst S bse 5 := r4 (by decide)
  refine Go.bind (hprod σ τ s D k ph bg bse S bs pre ⟨fun _ => r1 (by decide), fun q => absurd q (by decide), fun q => absurd q (by decide), fun _ => r4'.mono (by decide), by show S.length ≤ 6 * o + 4; omega, by show bs.length ≤ 6 * o + 4; omega⟩) (fun _ _ h => h) (fun σ1 s1 τ1 f1 cp1 ct1 hm1 h411 xle fh1 post => ?_) (fun σ1 fk fp cp1 d => ?_)
  · obtain ⟨P2, v2, ph2, bg2, mid2, q1, q2, q3, q4, -, q6, -⟩ := Post.mid pre f1 cp1 ct1 hm1 h411 fh1 post
    obtain ⟨e5, e6⟩ := q4 (by decide)
    subst e5
    have xl := ct1.xl
    have hF := cx.1
    exact (ok_sumL cx hprod hd F 0 σ1 τ1 s1 D k ph2 bg2 bse S bs P2 v2 mid2 (r1 (by decide)).1 e6 (fun x hx => ⟨(q1 x hx).1, by have := (q1 x hx).2; omega⟩) (by omega) r4' r5' r6' (q6 rfl) (by omega) (by omega)).post (fun σ' s' τ' _ _ _ _ _ _ q => q.shift (by omega))
  · show DR p (g_X1_sum_h7 rc F F (o : Int) 0 σ1) σ1 fk fp
    rw [eF]
    exact d_sumL cp1 d
