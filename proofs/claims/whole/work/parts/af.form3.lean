/-! LAYER 2: kitchen, formulas: the reference's loop -/
abbrev mk (σ : mMem) (c : Int) : Prop := σ 14 7 = 4 ∧ σ 14 9 = c
abbrev wd (σ : mMem) (c : Int) : Prop := σ 14 7 = 2 ∧ σ 14 9 = c
abbrev Ar (σ : mMem) : Prop := mk σ 43 ∨ mk σ 45 ∨ mk σ 42 ∨ mk σ 47 ∨ mk σ 37
theorem mw_m1 : mw (-1) = -1 := by decide
theorem mwr {r : Int} (h : r = 0 ∨ r = 1) : mw r = r := by rcases h with rfl | rfl <;> decide
theorem l_op {F n : Nat} {τ τ1 : mMem} {r : Int} (h0 : τ 86 41 = 0) (ho : g_X12_operand F τ = some (r, τ1)) (hr : r = 0 ∨ r = 1) (h8 : τ1 86 8 = 0) : g_X12_reads_h43 F (n + 1) 1 τ = g_X12_reads_h43 F n 1 (mup τ1 86 41 r) := by
  conv => lhs; unfold g_X12_reads_h43
  rw [h0]
  refine e_f (by decide) (e_f (fun q => q (by decide)) (e_mob ho (e_t (by rw [mwr hr]; exact hr) (e_mem ?_))))
  unfold g_X12_reads_b70 g_X12_reads_b86
  rw [mup_ne (o := 86) (j := 8) (by decide), h8]
  exact e_f (by decide) (e_f (fun q => q (by decide)) rfl)
theorem l_stop {F n : Nat} {τ : mMem} : g_X12_reads_h43 F (n + 1) 0 τ = some (0, τ) := by
  unfold g_X12_reads_h43
  exact e_t (by decide) rfl
theorem l_opd {F n : Nat} {τ τ1 : mMem} {r : Int} (h0 : τ 86 41 = 0) (ho : g_X12_operand F τ = some (r, τ1)) (hr : r = 0 ∨ r = 1) (h8 : 1 ≤ τ1 86 8 ∧ τ1 86 8 ≤ 6) : g_X12_reads_h43 F (n + 2) 1 τ = some (0, mup τ1 86 41 r) := by
  conv => lhs; unfold g_X12_reads_h43
  rw [h0]
  refine e_f (by decide) (e_f (fun q => q (by decide)) (e_mob ho (e_t (by rw [mwr hr]; exact hr) (e_mem ?_))))
  unfold g_X12_reads_b70 g_X12_reads_b85 g_X12_reads_b86
  rw [mup_ne (o := 86) (j := 8) (by decide)]
  exact e_f (by decide) (e_t (by rw [mw_id (by omega) (by omega)]; omega) l_stop)
theorem l_go {F n : Nat} {τ τ1 : mMem} (h0 : τ 86 41 = 1) (ho : g_X12_goesOn F τ = some (1, τ1)) (h8 : τ1 86 8 = 0) : g_X12_reads_h43 F (n + 1) 1 τ = g_X12_reads_h43 F n 1 τ1 := by
  conv => lhs; unfold g_X12_reads_h43
  rw [h0]
  refine e_f (by decide) (e_t (by decide) (e_mob ho ?_))
  unfold g_X12_reads_b70 g_X12_reads_b86
  rw [h8]
  exact e_f (by decide) (e_f (fun q => q (by decide)) rfl)
theorem l_gd {F n : Nat} {τ τ1 : mMem} (h0 : τ 86 41 = 1) (ho : g_X12_goesOn F τ = some (0, τ1)) : g_X12_reads_h43 F (n + 2) 1 τ = some (0, τ1) := by
  conv => lhs; unfold g_X12_reads_h43
  rw [h0]
  refine e_f (by decide) (e_t (by decide) (e_mob ho ?_))
  unfold g_X12_reads_b70 g_X12_reads_b85 g_X12_reads_b86
  exact e_t (by decide) l_stop
/-- a pending fault ends it -/
theorem l_dead {F i D : Nat} {τ : mMem} {fk fp : Int} (h : DdR τ fk fp) (hk : 1 ≤ fk ∧ fk ≤ 6) (hp : 0 ≤ fp ∧ fp ≤ 2000) (h41 : τ 86 41 = 0 ∨ τ 86 41 = 1) : ∃ τ', (∀ n, g_X12_reads_h43 F (n + 2) 1 τ = some (0, τ')) ∧ FH τ' τ i D ∧ τ' 86 8 = fk ∧ τ' 86 9 = fp := by
  obtain ⟨τ1, a1, a2, a3, a4⟩ := r_lexd (F := F) h hk hp
  have k8 : ¬ mw (τ1 86 8) ≤ 0 := by rw [a3, mw_id (by omega) (by omega)]; omega
  rcases h41 with h41 | h41
  · have op : g_X12_operand F τ = some (1, τ1) := by
      unfold g_X12_operand
      exact e_mob a1 (e_f k8 (e_t (by decide) rfl))
    refine ⟨mup τ1 86 41 1, fun n => l_opd h41 op (Or.inr rfl) (by omega), a2.fh.u86 (by decide), ?_, ?_⟩
    · rw [mup_ne (by decide)]; exact a3
    · rw [mup_ne (by decide)]; exact a4
  · have op : g_X12_goesOn F τ = some (0, τ1) := by
      unfold g_X12_goesOn
      exact e_mob a1 (e_f k8 (e_t (by decide) rfl))
    exact ⟨τ1, fun n => l_gd h41 op, a2.fh, a3, a4⟩
/-- both are one sign further, or dead -/
def Adv (F : Nat) (σ1 τ : mMem) (b : Nat → Int) (l i D s : Nat) (R : mMem → Prop) : Prop := (∃ s1 τ1, CTk σ1 b l s1 ∧ xCt b s1 = xCt b s + 1 ∧ Mt σ1 τ1 b l ∧ (∀ n, g_X12_reads_h43 F (n + 1) 1 τ = g_X12_reads_h43 F n 1 τ1) ∧ FH τ1 τ i D ∧ R τ1) ∨ (∃ fk fp τ1, DdC σ1 fk fp ∧ (∀ n, g_X12_reads_h43 F (n + 3) 1 τ = some (0, τ1)) ∧ FH τ1 τ i D ∧ τ1 86 8 = fk ∧ τ1 86 9 = fp)
theorem Adv.of {F l i D s : Nat} {σ1 τ τf : mMem} {b : Nat → Int} {R : mMem → Prop} (hσ : Nxt σ1 b l s) (hm : Mt σ1 τf b l) (st : ∀ n, g_X12_reads_h43 F (n + 1) 1 τ = g_X12_reads_h43 F n 1 τf) (fh : FH τf τ i D) (h41 : τf 86 41 = 0 ∨ τf 86 41 = 1) (r : R τf) : Adv F σ1 τ b l i D s R := by
  rcases hσ with ⟨s1, c1, e1⟩ | ⟨fk, fp, d⟩
  · exact Or.inl ⟨s1, τf, c1, e1, hm, st, fh, r⟩
  · have dk := d.1
    obtain ⟨τ', a1, a2, a3, a4⟩ := l_dead (F := F) (i := i) (D := D) (hm.dead d) (by omega) (by omega) h41
    exact Or.inr ⟨fk, fp, τ', d, fun n => by rw [show n + 3 = (n + 2) + 1 by omega, st, a1], a2.tr fh, a3, a4⟩
/-- a live look at the sign -/
theorem r_lexl {F l s : Nat} {σ τ : mMem} {b : Nat → Int} (c : CTk σ b l s) (hm : Mt σ τ b l) : g_X12_lex F τ = some (0, τ) ∧ Vw σ τ ∧ τ 86 8 = 0 := by
  obtain ⟨τ1, t1, t2, t3, t4⟩ := r_lex (F := F) hm
  rcases t4 with ⟨s', q1, q2, q3, q4, q5⟩ | ⟨fk, fp, d, -⟩
  · subst q2
    exact ⟨t1, q5, q4⟩
  · exact (c.nd d).elim
/-- goesOn: the head -/
theorem r_goh {F l i D o s : Nat} {σ τ : mMem} {b : Nat → Int} {k ph bg bse : Int} {S : List Int} {X : mRs} (c : CTk σ b l s) (hm : Mt σ τ b l) (hf : Fr τ i D o k ph bg bse S) (hk : 0 ≤ k ∧ k ≤ 6) (hp : 0 ≤ ph ∧ ph ≤ 2) (hD : D ≤ 15) : ((¬ Ar σ ∨ ph = 2) → g_X12_goesOn_b188 F (D : Int) k (mb (isT k)) τ = X → g_X12_goesOn F τ = X) ∧ ((Ar σ ∧ ph < 2) → g_X12_goesOn_b87 F τ = X → g_X12_goesOn F τ = X) := by
  obtain ⟨l1, v, e8⟩ := r_lexl (F := F) c hm
  obtain ⟨⟨f1, -⟩, ⟨f5, f6, -⟩, -⟩ := hf
  have hD1 : (D : Int) + 1 - 1 = (D : Int) := by omega
  have mD : (mw (D : Int)).toNat = D := mwN (by omega)
  have rD : 0 ≤ mw (D : Int) ∧ mw (D : Int) < 20 := mwR (by omega) (by decide)
  have s43 := r_isS (F := F) (c := 43) v (by decide)
  have s45 := r_isS (F := F) (c := 45) v (by decide)
  have s42 := r_isS (F := F) (c := 42) v (by decide)
  have s47 := r_isS (F := F) (c := 47) v (by decide)
  have s37 := r_isS (F := F) (c := 37) v (by decide)
  have hd : ∀ Y, (if mw 2 ≤ mw ph then (g_X12_goesOn_b188 F (D : Int) k (mb (isT k)) τ) else (mob (g_X12_isSign F 43 τ) (fun r7 σ8 => if ¬ mw r7 = 0 then (g_X12_goesOn_b87 F σ8) else (mob (g_X12_isSign F 45 σ8) (fun r9 σ10 => if ¬ mw r9 = 0 then (g_X12_goesOn_b87 F σ10) else (mob (g_X12_isSign F 42 σ10) (fun r11 σ12 => if ¬ mw r11 = 0 then (g_X12_goesOn_b87 F σ12) else (mob (g_X12_isSign F 47 σ12) (fun r13 σ14 => if ¬ mw r13 = 0 then (g_X12_goesOn_b87 F σ14) else (mob (g_X12_isSign F 37 σ14) (fun r15 σ16 => if mw r15 = 0 then (g_X12_goesOn_b188 F (D : Int) k (mb (isT k)) σ16) else (g_X12_goesOn_b87 F σ16)))))))))))) = Y → g_X12_goesOn F τ = Y := by
    intro Y hY
    unfold g_X12_goesOn
    refine e_mob l1 ?_
    rw [e8, f1, hD1]
    refine e_t (by decide) (e_let ?_)
    rw [mD, f5]
    refine e_t rD (e_let (e_mob (r_isT hk) ?_))
    rw [f6]
    exact e_t rD hY
  have mb0 : ∀ {q : Prop} [Decidable q], q → ¬ mw (mb q) = 0 := fun h => by rw [mb_t h]; decide
  have mb1 : ∀ {q : Prop} [Decidable q], ¬ q → ¬ ¬ mw (mb q) = 0 := fun h => by rw [mb_f h]; exact fun e => e (by decide)
  rw [show mw 2 = 2 by decide, mw_id (z := ph) (by omega) (by omega)] at hd
  refine ⟨fun h hX => hd _ ?_, fun h hX => hd _ (e_f (by omega) ?_)⟩
  · by_cases c2 : 2 ≤ ph
    · exact e_t c2 hX
    · have na : ¬ Ar σ := by
        rcases h with h | h
        · exact h
        · omega
      refine e_f c2 (e_mob s43 (e_f (mb1 (fun q => na (Or.inl q))) (e_mob s45 (e_f (mb1 (fun q => na (Or.inr (Or.inl q)))) (e_mob s42 (e_f (mb1 (fun q => na (Or.inr (Or.inr (Or.inl q))))) (e_mob s47 (e_f (mb1 (fun q => na (Or.inr (Or.inr (Or.inr (Or.inl q)))))) (e_mob s37 (e_t ?_ hX))))))))))
      rw [mb_f (fun q => na (Or.inr (Or.inr (Or.inr (Or.inr q)))))]
      decide
  · refine e_mob s43 ?_
    by_cases q1 : mk σ 43
    · exact e_t (mb0 q1) hX
    refine e_f (mb1 q1) (e_mob s45 ?_)
    by_cases q2 : mk σ 45
    · exact e_t (mb0 q2) hX
    refine e_f (mb1 q2) (e_mob s42 ?_)
    by_cases q3 : mk σ 42
    · exact e_t (mb0 q3) hX
    refine e_f (mb1 q3) (e_mob s47 ?_)
    by_cases q4 : mk σ 47
    · exact e_t (mb0 q4) hX
    refine e_f (mb1 q4) (e_mob s37 ?_)
    have q5 : mk σ 37 := by
      rcases h.1 with q | q | q | q | q
      · exact absurd q q1
      · exact absurd q q2
      · exact absurd q q3
      · exact absurd q q4
      · exact q
    exact e_f (mb0 q5) hX
theorem mb_n0 {q : Prop} [Decidable q] (h : q) : ¬ mw (mb q) = 0 := by rw [mb_t h]; decide
theorem mb_e0 {q : Prop} [Decidable q] (h : ¬ q) : mw (mb q) = 0 := by rw [mb_f h]; decide
theorem mb_nn0 {q : Prop} [Decidable q] (h : ¬ q) : ¬ ¬ mw (mb q) = 0 := fun e => e (mb_e0 h)
theorem FH.fk87 {τ' τ : mMem} {i D : Nat} (f : FH τ' τ i D) : τ' 87 = τ 87 := f.1 87 (by decide)
theorem FA.fkr {τ' τ : mMem} (h : FA τ' τ) : τ' 86 8 = τ 86 8 ∧ τ' 86 41 = τ 86 41 ∧ τ' 86 29 = τ 86 29 ∧ τ' 100 = τ 100 ∧ τ' 101 = τ 101 := ⟨h.2 8 (by decide) (by decide) (by decide) (by decide) (by decide) (by decide), h.2 41 (by decide) (by decide) (by decide) (by decide) (by decide) (by decide), h.2 29 (by decide) (by decide) (by decide) (by decide) (by decide) (by decide), h.1 100 (by decide), h.1 101 (by decide)⟩
theorem Fr.fa {τ τ' : mMem} {i D o : Nat} {k ph bg bse : Int} {S : List Int} (h : Fr τ i D o k ph bg bse S) (f : FA τ' τ) : Fr τ' i D o k ph bg bse S := h.cg (fun j hj => f.2 j (by omega) (by omega) (by omega) (by omega) (by omega) (by omega)) (fun q q1 q2 => f.1 q (by omega))
theorem Cd.fn {σ σ' τ : mMem} {p i : Nat} {P : List Int} (h : Cd σ τ p i P) (f : FN σ' σ) (hp : p = 3 ∨ p = 8) : Cd σ' τ p i P := h.cgc (by rw [f.1 p (by omega)]) (by rw [f.1 (p + 4) (by omega)])
theorem Cd.fa {σ τ τ' : mMem} {p i : Nat} {P : List Int} (h : Cd σ τ p i P) (f : FA τ' τ) : Cd σ τ' p i P := h.cgr f.fkr.2.2.1 f.fkr.2.2.2.1 f.fkr.2.2.2.2
/-- which sign: what the reference holds back, by which rank, the class's code -/
def arOf (c a r op : Int) : Prop := (c = 43 ∧ a = 31 ∧ r = 5 ∧ op = 3) ∨ (c = 45 ∧ a = 32 ∧ r = 5 ∧ op = 4) ∨ (c = 42 ∧ a = 33 ∧ r = 6 ∧ op = 5) ∨ (c = 47 ∧ a = 34 ∧ r = 6 ∧ op = 6) ∨ (c = 37 ∧ a = 35 ∧ r = 6 ∧ op = 7)
/-- an operator between numbers: both go on -/
theorem j_ar {F l p i D o s : Nat} {σ τ : mMem} {b : Nat → Int} {k ph bg bse c a r op : Int} {P S : List Int} (hF : 2000 ≤ F) (hb : ∀ j, j < l → 0 ≤ b j ∧ b j ≤ 255) (hp : p = 3 ∨ p = 8) (hi : i = 0 ∨ i = 1) (ct : CTk σ b l s) (hm : Mt σ τ b l) (h41 : τ 86 41 = 1) (ha : arOf c a r op) (hc : mk σ c) (hf : Fr τ i D (o + nots P) k ph bg bse (P ++ S)) (hcd : Cd σ τ p i P) (hP : ∀ x, x ∈ P → (31 ≤ x ∧ x ≤ 43) ∧ r ≤ rk x) (hs : Jst S bse r) (hbs : 0 ≤ bse) (hk : 0 ≤ k ∧ k ≤ 6) (hph : 0 ≤ ph ∧ ph < 2) (hD : D ≤ 15) (ho : o ≤ 100) (hl : P.length + S.length ≤ 399) : ∃ σ1, g_X8_next F σ = some (0, σ1) ∧ FN σ1 σ ∧ Adv F σ1 τ b l i D s (fun τ1 => τ1 86 41 = 0 ∧ Fr τ1 i D o k ph bg bse (a :: S) ∧ Cd σ1 τ1 p i []) := by
  obtain ⟨σ1, n1, n2, n3, n4⟩ := j_adv2 (F := F) hF hb ct (ct.lt (by have := hc.1; omega))
  refine ⟨σ1, n1, n2, ?_⟩
  have hr : 1 ≤ r ∧ r ≤ 6 := by unfold arOf at ha; omega
  obtain ⟨τ1, j1, j2, j3, j4, j5⟩ := r_joins (F := F) (σ := σ) (p := p) hi hD hbs hr hs P o F τ (by omega) (by omega) ho hf hcd hP
  have hm1 : Mt σ τ1 b l := hm.fk j4 j5
  obtain ⟨τ2, h1, h2, h3, h4, h5⟩ := r_hold (F := F) (a := a) (by omega) j2
  have hm2 : Mt σ τ2 b l := hm1.fk h3 h4
  obtain ⟨τ3, a1, a2, a3⟩ := n4 τ2 hm2
  obtain ⟨-, v, e8⟩ := r_lexl (F := F) ct hm
  obtain ⟨-, v1, e81⟩ := r_lexl (F := F) ct hm1
  obtain ⟨-, -, e82⟩ := r_lexl (F := F) ct hm2
  obtain ⟨τ4, e4⟩ : ∃ y, y = mup τ3 86 41 0 := ⟨_, rfl⟩
  have o4 : ∀ q, q ≠ 86 → τ4 q = τ3 q := fun q hq => by rw [e4, mup_off hq]
  have s4 : ∀ j, j ≠ 41 → τ4 86 j = τ3 86 j := fun j hj => by rw [e4, mup_ne (by omega)]
  have goal : g_X12_goesOn F τ = some (1, τ4) := by
    refine (r_goh (F := F) ct hm hf hk (by omega) hD).2 ⟨by unfold arOf at ha; omega, hph.2⟩ ?_
    have b174 : g_X12_goesOn_b174 F a τ1 = some (1, τ4) := by
      unfold g_X12_goesOn_b174
      refine e_mob h1 (e_mob a1 (e_t (by decide) (e_mem ?_)))
      rw [← e4]
      exact e_t (by decide) rfl
    have tail : g_X12_goesOn_b112 F r τ = some (1, τ4) := by
      unfold g_X12_goesOn_b112
      refine e_mob (show g_X12_joins F r τ = some (0, τ1) from j1) (e_mob (r_isS v1 (by decide)) ?_)
      unfold arOf at ha
      rcases ha with ⟨rfl, rfl, rfl, -⟩ | ⟨rfl, rfl, rfl, -⟩ | ⟨rfl, rfl, rfl, -⟩ | ⟨rfl, rfl, rfl, -⟩ | ⟨rfl, rfl, rfl, -⟩
      · exact e_f (mb_n0 hc) b174
      · exact e_t (mb_e0 (by omega)) (e_mob (r_isS v1 (by decide)) (e_f (mb_n0 hc) b174))
      · exact e_t (mb_e0 (by omega)) (e_mob (r_isS v1 (by decide)) (e_t (mb_e0 (by omega)) (e_mob (r_isS v1 (by decide)) (e_f (mb_n0 hc) b174))))
      · exact e_t (mb_e0 (by omega)) (e_mob (r_isS v1 (by decide)) (e_t (mb_e0 (by omega)) (e_mob (r_isS v1 (by decide)) (e_t (mb_e0 (by omega)) (e_mob (r_isS v1 (by decide)) (e_f (mb_n0 hc) b174))))))
      · exact e_t (mb_e0 (by omega)) (e_mob (r_isS v1 (by decide)) (e_t (mb_e0 (by omega)) (e_mob (r_isS v1 (by decide)) (e_t (mb_e0 (by omega)) (e_mob (r_isS v1 (by decide)) (e_t (mb_e0 (by omega)) b174))))))
    unfold g_X12_goesOn_b87 g_X12_goesOn_b106
    unfold arOf at ha
    refine e_mob (r_isS v (by decide)) ?_
    by_cases q1 : mk σ 43
    · have : r = 5 := by omega
      rw [this] at tail
      exact e_t (mb_n0 q1) tail
    · refine e_f (mb_nn0 q1) (e_mob (r_isS v (by decide)) ?_)
      by_cases q2 : mk σ 45
      · have : r = 5 := by omega
        rw [this] at tail
        exact e_f (mb_n0 q2) tail
      · have : r = 6 := by omega
        rw [this] at tail
        exact e_t (mb_e0 q2) tail
  have a8 := a2.fkr
  refine Adv.of n3 (a3.cg (fun _ _ => rfl) (o4 87 (by decide)) (fun j hj => s4 j (by omega))) (fun n => l_go h41 goal (by rw [s4 8 (by decide), a8.1]; exact e82)) ?_ (Or.inl (by rw [e4, mup_at rfl rfl])) ⟨by rw [e4, mup_at rfl rfl], ?_, ?_⟩
  · rw [e4]
    exact (((a2.fr.fh).tr h3).tr j4).u86 (by decide)
  · exact (h2.fa a2).cg (fun j hj => s4 j (by omega)) (fun q q1 q2 => o4 q (by omega))
  · exact (((j3.cgr h5.1 h5.2.1 h5.2.2).fa a2).fn n2 hp).cgr (s4 29 (by decide)) (o4 100 (by decide)) (o4 101 (by decide))
