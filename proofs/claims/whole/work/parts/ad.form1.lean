/-! LAYER 2: kitchen, formulas: the class's side -/
/-- one sign further, or dead -/
def Nxt (σ' : mMem) (b : Nat → Int) (l s : Nat) : Prop := (∃ s', CTk σ' b l s' ∧ xCt b s' = xCt b s + 1) ∨ ∃ fk fp, DdC σ' fk fp
theorem j_adv2 {F l s : Nat} {σ : mMem} {b : Nat → Int} (hF : 2000 ≤ F) (hb : ∀ j, j < l → 0 ≤ b j ∧ b j ≤ 255) (h : CTk σ b l s) (hs : s < l) : ∃ σ', g_X8_next F σ = some (0, σ') ∧ FN σ' σ ∧ Nxt σ' b l s ∧ ∀ τ, Mt σ τ b l → ∃ τ', g_X12_ahead F τ = some (0, τ') ∧ FA τ' τ ∧ Mt σ' τ' b l := by
  obtain ⟨s', hn⟩ := nx_ex (b := b) hs
  obtain ⟨σ', a1, a2, a3⟩ := c_next (F := F) hb h hs hn
  obtain ⟨σ2, c1, c2, c3, c4⟩ := j_adv (F := F) hF hb h hs
  have e := (some_inj (c1.symm.trans a1)).2
  subst e
  have sg : xSg b s := by
    rcases h.2.2.2.2.2 with ⟨e, -⟩ | ⟨⟨-, e⟩, -⟩
    · omega
    · exact e
  refine ⟨σ2, a1, a2, ?_, c4⟩
  rcases a3 with c | ⟨k, -, d⟩
  · exact Or.inl ⟨s', c, xCt_gap sg hn.1.1 hn.2.2⟩
  · exact Or.inr ⟨1, (k : Int), d⟩
theorem okR_snoc {code : Nat → Int} : ∀ (n i : Nat) (bs : List Bool), okR code (n + 1) i bs = (okR code n i bs).bind (fun x => okS x (code (i + n)))
  | 0, i, bs => by
    show (okS bs (code i)).bind (fun x => some x) = okS bs (code (i + 0))
    cases okS bs (code i) <;> rfl
  | n + 1, i, bs => by
    show (okS bs (code i)).bind (okR code (n + 1) (i + 1)) = ((okS bs (code i)).bind (okR code n (i + 1))).bind _
    cases h : okS bs (code i) with
    | none => rfl
    | some x =>
      show okR code (n + 1) (i + 1) x = (okR code n (i + 1) x).bind _
      rw [okR_snoc n (i + 1) x, show i + 1 + n = i + (n + 1) by omega]
theorem okR_cg {code code' : Nat → Int} : ∀ (n i : Nat) (bs : List Bool), (∀ j, i ≤ j → j < i + n → code' j = code j) → okR code' n i bs = okR code n i bs
  | 0, i, bs, _ => rfl
  | n + 1, i, bs, h => by
    show (okS bs (code' i)).bind (okR code' n (i + 1)) = (okS bs (code i)).bind (okR code n (i + 1))
    rw [h i (by omega) (by omega)]
    cases okS bs (code i) with
    | none => rfl
    | some x => exact okR_cg n (i + 1) x (fun j j1 j2 => h j (by omega) (by omega))
/-- the code from fr on leaves values as bs tells -/
def TyC (σ : mMem) (p fr : Nat) (m : Int) (bs : List Bool) : Prop := ∃ n : Nat, σ p 4 = (fr : Int) + (n : Int) ∧ okR (σ (p + 4)) n fr [] = some bs ∧ knOK (σ (p + 4)) m n fr
theorem TyC.cg {σ σ' : mMem} {p fr : Nat} {m : Int} {bs : List Bool} (h : TyC σ p fr m bs) (e : σ' p 4 = σ p 4) (e4 : σ' (p + 4) = σ (p + 4)) : TyC σ' p fr m bs := by
  unfold TyC at *
  rw [e, e4]
  exact h
/-- the formula's plan -/
def CP (σ : mMem) (p : Nat) : Prop := (p = 3 ∨ p = 8) ∧ σ 19 1 = (p : Int) ∧ (0 ≤ σ p 4 ∧ σ p 4 ≤ 1600)
def FG (σ' σ : mMem) (p : Nat) : Prop := (∀ q, q ≠ 14 → q ≠ p → q ≠ p + 4 → σ' q = σ q) ∧ (∀ j, j ≠ 4 → σ' p j = σ p j) ∧ (∀ j : Nat, (j : Int) < σ p 4 → σ' (p + 4) j = σ (p + 4) j) ∧ σ p 4 ≤ σ' p 4 ∧ ∀ j, (j < 6 ∨ 11 < j) → σ' 14 j = σ 14 j
theorem FG.rfl' {σ : mMem} {p : Nat} : FG σ σ p := ⟨fun _ _ _ _ => rfl, fun _ _ => rfl, fun _ _ => rfl, Int.le_refl _, fun _ _ => rfl⟩
theorem FG.tr {a b c : mMem} {p : Nat} (h : FG a b p) (g : FG b c p) : FG a c p := ⟨fun q q1 q2 q3 => (h.1 q q1 q2 q3).trans (g.1 q q1 q2 q3), fun j hj => (h.2.1 j hj).trans (g.2.1 j hj), fun j hj => (h.2.2.1 j (by have := g.2.2.2.1; omega)).trans (g.2.2.1 j hj), Int.le_trans g.2.2.2.1 h.2.2.2.1, fun j hj => (h.2.2.2.2 j hj).trans (g.2.2.2.2 j hj)⟩
theorem FN.fg {σ' σ : mMem} {p : Nat} (h : FN σ' σ) (hp : p = 3 ∨ p = 8) : FG σ' σ p := ⟨fun q q1 _ _ => h.1 q q1, fun j _ => by rw [h.1 p (by omega)], fun j _ => by rw [h.1 (p + 4) (by omega)], by rw [h.1 p (by omega)]; exact Int.le_refl _, h.2⟩
theorem CP.fn {σ' σ : mMem} {p : Nat} (h : CP σ p) (f : FN σ' σ) : CP σ' p := by
  obtain ⟨h1, h2, h3⟩ := h
  exact ⟨h1, by rw [f.1 19 (by decide)]; exact h2, by rw [f.1 p (by omega)]; exact h3⟩
theorem TyC.fn {σ σ' : mMem} {p fr : Nat} {m : Int} {bs : List Bool} (h : TyC σ p fr m bs) (f : FN σ' σ) (hp : p = 3 ∨ p = 8) : TyC σ' p fr m bs := h.cg (by rw [f.1 p (by omega)]) (by rw [f.1 (p + 4) (by omega)])
/-- a code is written -/
theorem c_emit {F p : Nat} {σ : mMem} {op arg : Int} (h : CP σ p) : ∃ σ', g_X5_emit F p op arg σ = some (0, σ') ∧ FG σ' σ p ∧ CP σ' p ∧ σ' 14 = σ 14 ∧ (σ p 4 < 1600 → σ' = mup (mup σ (p + 4) (σ p 4).toNat (arg * 16 + op)) p 4 (σ p 4 + 1)) := by
  obtain ⟨h1, h2, h3⟩ := h
  have e : mw (σ p 4) = σ p 4 := mw_id (by omega) (by omega)
  unfold g_X5_emit g_X5_emit_b44
  rw [e, show mw 1600 = 1600 by decide]
  by_cases c : σ p 4 < 1600
  · obtain ⟨σ', e'⟩ : ∃ y, y = mup (mup σ (p + 4) (σ p 4).toNat (arg * 16 + op)) p 4 (σ p 4 + 1) := ⟨_, rfl⟩
    have v4 : σ' p 4 = σ p 4 + 1 := by rw [e', mup_at rfl rfl]
    refine ⟨σ', ?_, ⟨fun q q1 q2 q3 => by rw [e', mup_off q2, mup_off q3], fun j hj => by rw [e', mup_ne (by omega), mup_off (by omega)], fun j hj => by rw [e', mup_off (by omega), mup_ne (by omega)], by omega, fun j _ => by rw [e', mup_off (by omega), mup_off (by omega)]⟩, ⟨h1, by rw [e', mup_off (by omega), mup_off (by omega)]; exact h2, by omega⟩, by rw [e', mup_off (by omega), mup_off (by omega)], fun _ => e'⟩
    refine e_f (by omega) (e_f (by omega) (e_t (by omega) (e_mem (e_mem ?_))))
    rw [mup_off (o := p + 4) (q := p) (by omega), ← e']
  · exact ⟨σ, e_f (by omega) (e_t (by omega) rfl), FG.rfl', ⟨h1, h2, h3⟩, rfl, fun q => absurd q c⟩
/-- what it writes is typed -/
theorem TyC.em {σ σ' : mMem} {p fr : Nat} {m c : Int} {bs bs' : List Bool} (h : TyC σ p fr m bs) (e : σ' = mup (mup σ (p + 4) (σ p 4).toNat c) p 4 (σ p 4 + 1)) (ho : okS bs c = some bs') (hm : c % 16 = 1 → c / 16 < m) : TyC σ' p fr m bs' := by
  obtain ⟨n, h1, h2, h3⟩ := h
  have en : (σ p 4).toNat = fr + n := by omega
  rw [en] at e
  have low : ∀ j, j ≠ fr + n → σ' (p + 4) j = σ (p + 4) j := fun j hj => by rw [e, mup_off (by omega), mup_ne (by omega)]
  have at' : σ' (p + 4) (fr + n) = c := by rw [e, mup_off (by omega), mup_at rfl rfl]
  refine ⟨n + 1, by rw [e, mup_at rfl rfl]; omega, ?_, fun j j1 j2 => ?_⟩
  · rw [okR_snoc, okR_cg n fr [] (fun j j1 j2 => low j (by omega)), h2, at']
    exact ho
  · by_cases cj : j = fr + n
    · subst cj
      rw [at']
      exact hm
    · rw [low j cj]
      exact h3 j j1 (by omega)
/-! dead: nothing more is read -/
theorem c_isMd {F : Nat} {σ : mMem} {c fk fp : Int} (d : DdC σ fk fp) (hc : 0 ≤ c ∧ c ≤ 255) : g_X8_isMark F c σ = some (0, σ) := by
  rw [c_isM d.rg hc, mb_f (fun q => by have := d.2.2.2.1; omega)]
theorem c_isWd {F : Nat} {σ : mMem} {c fk fp : Int} (d : DdC σ fk fp) (hc : 0 ≤ c ∧ c ≤ 255) : g_X8_isWord F c σ = some (0, σ) := by
  rw [c_isW d.rg hc, mb_f (fun q => by have := d.2.2.2.1; omega)]
theorem DdC.cg {σ σ' : mMem} {fk fp : Int} (d : DdC σ fk fp) (e : σ' 14 = σ 14) : DdC σ' fk fp := by
  unfold DdC at *
  rw [e]
  exact d
def DR (p : Nat) (q : mRs) (σ : mMem) (fk fp : Int) : Prop := ∃ σ', q = some (0, σ') ∧ FG σ' σ p ∧ CP σ' p ∧ DdC σ' fk fp
theorem DR.bind {p : Nat} {q : mRs} {σ : mMem} {fk fp : Int} {k : Int → mMem → mRs} (h : DR p q σ fk fp) (g : ∀ σ', CP σ' p → DdC σ' fk fp → DR p (k 0 σ') σ' fk fp) : DR p (mob q k) σ fk fp := by
  obtain ⟨σ1, a1, a2, a3, a4⟩ := h
  obtain ⟨σ2, b1, b2, b3, b4⟩ := g σ1 a3 a4
  exact ⟨σ2, e_mob a1 b1, b2.tr a2, b3, b4⟩
theorem DR.ret {p : Nat} {σ : mMem} {fk fp : Int} (h : CP σ p) (d : DdC σ fk fp) : DR p (some (0, σ)) σ fk fp := ⟨σ, rfl, FG.rfl', h, d⟩
theorem DR.ref {F p : Nat} {σ : mMem} {fk fp x : Int} (h : CP σ p) (d : DdC σ fk fp) : DR p (g_X8_refuseHere F x σ) σ fk fp := by
  obtain ⟨σ1, a1, a2, a3⟩ := c_refd (F := F) (x := x) d
  exact ⟨σ1, a1, a2.fg h.1, h.fn a2, a3⟩
theorem DR.next {F p : Nat} {σ : mMem} {fk fp : Int} (h : CP σ p) (d : DdC σ fk fp) : DR p (g_X8_next F σ) σ fk fp := ⟨σ, c_nextd d, FG.rfl', h, d⟩
theorem DR.mark {F p : Nat} {σ : mMem} {fk fp c : Int} (h : CP σ p) (d : DdC σ fk fp) (hc : 0 ≤ c ∧ c ≤ 255) : DR p (g_X8_takeMark F c σ) σ fk fp := by
  obtain ⟨σ1, a1, a2, a3⟩ := c_markd (F := F) d hc
  exact ⟨σ1, a1, a2.fg h.1, h.fn a2, a3⟩
theorem DR.emit {F p : Nat} {σ : mMem} {fk fp op arg : Int} {k : Int → mMem → mRs} (h : CP σ p) (d : DdC σ fk fp) (g : ∀ σ', CP σ' p → DdC σ' fk fp → DR p (k 0 σ') σ' fk fp) : DR p (if σ 19 1 = 3 ∨ σ 19 1 = 8 then mob (g_X5_emit F (σ 19 1).toNat op arg σ) k else none) σ fk fp := by
  have hp := h.1
  rw [h.2.1, if_pos (by omega), show ((p : Int)).toNat = p by omega]
  refine DR.bind ?_ g
  obtain ⟨σ1, a1, a2, a3, a4, -⟩ := c_emit (F := F) (op := op) (arg := arg) h
  exact ⟨σ1, a1, a2, a3, d.cg a4⟩
theorem DR.eq {p : Nat} {q q' : mRs} {σ : mMem} {fk fp : Int} (e : q = q') (h : DR p q' σ fk fp) : DR p q σ fk fp := by rw [e]; exact h
theorem DR.c {p : Nat} {q : mRs} {σ : mMem} {fk fp : Int} {k : Int → mMem → mRs} (e : q = some (0, σ)) (h : DR p (k 0 σ) σ fk fp) : DR p (mob q k) σ fk fp := DR.eq (e_mob e rfl) h
theorem DR.t {p : Nat} {c : Prop} [Decidable c] {A B : mRs} {σ : mMem} {fk fp : Int} (h : c) (k : DR p A σ fk fp) : DR p (if c then A else B) σ fk fp := by rw [if_pos h]; exact k
theorem DR.f {p : Nat} {c : Prop} [Decidable c] {A B : mRs} {σ : mMem} {fk fp : Int} (h : ¬ c) (k : DR p B σ fk fp) : DR p (if c then A else B) σ fk fp := by rw [if_neg h]; exact k
def Dc (p : Nat) (rc : Nat → Int → Int → mMem → mRs) (t : Nat) : Prop := ∀ (a x : Int) (σ : mMem) (fk fp : Int), CP σ p → DdC σ fk fp → DR p (rc t a x σ) σ fk fp
theorem d_part {F p : Nat} {rc : Nat → Int → Int → mMem → mRs} {a : Int} {σ : mMem} {fk fp : Int} (h : CP σ p) (d : DdC σ fk fp) : DR p (g_X1_part rc F a σ) σ fk fp := by
  have e7 := d.2.2.2.1
  unfold g_X1_part
  refine DR.t (by rw [e7]; decide) (DR.c (c_isMd d (by decide)) (DR.t (by decide) (DR.c (c_isWd d (by decide)) (DR.t (by decide) (DR.c (c_isWd d (by decide)) (DR.t (by decide) (DR.c (c_isWd d (by decide)) (DR.t (by decide) (DR.bind ?_ (fun σ' h' d' => DR.ret h' d'))))))))))
  unfold g_X1_known g_X1_known_b25 g_X1_known_b42 g_X1_known_b59
  exact DR.t (by rw [e7]; decide) (DR.f (by decide) (DR.t (by decide) (DR.t (by decide) (DR.bind (DR.ref h d) (fun σ' h' d' => DR.ret h' d')))))
theorem c_pSd {F : Nat} {σ : mMem} {fk fp : Int} (d : DdC σ fk fp) : g_X1_productSign F σ = some (-1, σ) := by
  unfold g_X1_productSign g_X1_productSign_b47
  exact e_mob (c_isMd d (by decide)) (e_t (by decide) (e_mob (c_isMd d (by decide)) (e_t (by decide) (e_mob (c_isMd d (by decide)) (e_t (by decide) rfl)))))
theorem d_prodL {F p n : Nat} {rc : Nat → Int → Int → mMem → mRs} {a k : Int} {σ : mMem} {fk fp : Int} (h : CP σ p) (d : DdC σ fk fp) : DR p (g_X1_product_h12 rc F (n + 1) a (-1) k σ) σ fk fp := by
  unfold g_X1_product_h12 g_X1_product_b56
  by_cases c : mw 1600 ≤ mw k
  · exact DR.t c (DR.ret h d)
  · exact DR.f c (DR.t rfl (DR.ret h d))
theorem d_sumL {F p n : Nat} {rc : Nat → Int → Int → mMem → mRs} {a k : Int} {σ : mMem} {fk fp : Int} (h : CP σ p) (d : DdC σ fk fp) : DR p (g_X1_sum_h7 rc F (n + 1) a k σ) σ fk fp := by
  unfold g_X1_sum_h7 g_X1_sum_b83
  by_cases c : mw 1600 ≤ mw k
  · exact DR.t c (DR.ret h d)
  · exact DR.f c (DR.c (c_isMd d (by decide)) (DR.f (by decide) (DR.c (c_isMd d (by decide)) (DR.t (by decide) (DR.ret h d)))))
theorem d_bothL {F p n : Nat} {rc : Nat → Int → Int → mMem → mRs} {a k : Int} {σ : mMem} {fk fp : Int} (h : CP σ p) (d : DdC σ fk fp) : DR p (g_X1_both_h7 rc F (n + 1) a k σ) σ fk fp := by
  unfold g_X1_both_h7 g_X1_both_b54
  by_cases c : mw 1600 ≤ mw k
  · exact DR.t c (DR.ret h d)
  · exact DR.f c (DR.c (c_isWd d (by decide)) (DR.t (by decide) (DR.ret h d)))
theorem d_testL {F p n : Nat} {rc : Nat → Int → Int → mMem → mRs} {a k : Int} {σ : mMem} {fk fp : Int} (h : CP σ p) (d : DdC σ fk fp) : DR p (g_X1_test_h7 rc F (n + 1) a k σ) σ fk fp := by
  unfold g_X1_test_h7 g_X1_test_b54
  by_cases c : mw 1600 ≤ mw k
  · exact DR.t c (DR.ret h d)
  · exact DR.f c (DR.c (c_isWd d (by decide)) (DR.t (by decide) (DR.ret h d)))
theorem d_rec {F p : Nat} (hF : 2000 ≤ F) : ∀ (t d : Nat), t ≤ 6 → 7 ≤ d + t → Dc p (g_X1_rec F d) t := by
  obtain ⟨F', rfl⟩ : ∃ F', F = F' + 1 := ⟨F - 1, by omega⟩
  have key : ∀ (u t d : Nat), u + t = 6 → 7 ≤ d + t → Dc p (g_X1_rec (F' + 1) d) t := by
    intro u
    induction u with
    | zero =>
      intro t d e1 e2 a x σ fk fp h dd
      obtain ⟨d, rfl⟩ : ∃ d', d = d' + 1 := ⟨d - 1, by omega⟩
      have : t = 6 := by omega
      subst this
      exact d_part h dd
    | succ u ih =>
      intro t d e1 e2 a x σ fk fp h dd
      obtain ⟨d, rfl⟩ : ∃ d', d = d' + 1 := ⟨d - 1, by omega⟩
      have sub := ih (t + 1) d (by omega) (by omega)
      rcases (by omega : t = 5 ∨ t = 4 ∨ t = 3 ∨ t = 2 ∨ t = 1 ∨ t = 0) with rfl | rfl | rfl | rfl | rfl | rfl
      · refine DR.bind (sub a 0 σ fk fp h dd) (fun σ' h' d' => DR.eq (e_mob (c_pSd d') rfl) (d_prodL h' d'))
      · exact DR.bind (sub a 0 σ fk fp h dd) (fun σ' h' d' => d_sumL h' d')
      · refine DR.bind (sub a 0 σ fk fp h dd) (fun σ' h' d' => DR.c (c_isMd d' (by decide)) (DR.t (by decide) (DR.c (c_isMd d' (by decide)) (DR.t (by decide) (DR.c (c_isMd d' (by decide)) (DR.t (by decide) (DR.bind (DR.ref h' d') (fun σ' h' d' => DR.ret h' d'))))))))
      · exact DR.c (c_isWd dd (by decide)) (DR.t (by decide) (DR.c (c_isMd dd (by decide)) (DR.t (by decide) (DR.c (c_isWd dd (by decide)) (DR.t (by decide) (DR.bind (sub a 0 σ fk fp h dd) (fun σ' h' d' => DR.ret h' d')))))))
      · exact DR.bind (sub a 0 σ fk fp h dd) (fun σ' h' d' => d_bothL h' d')
      · exact DR.bind (sub a 0 σ fk fp h dd) (fun σ' h' d' => d_testL h' d')
  exact fun t d h1 h2 => key (6 - t) t d (by omega) h2
