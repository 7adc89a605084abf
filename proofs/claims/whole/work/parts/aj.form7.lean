/-! LAYER 2: kitchen, formulas: what a rule of the class does, and the reference meanwhile -/
def Out (F : Nat) (σ' τ : mMem) (b : Nat → Int) (l i D s : Nat) (Q : Nat → mMem → Prop) : Prop := (∃ s' τ', CTk σ' b l s' ∧ Mt σ' τ' b l ∧ τ' 86 41 = 1 ∧ (∃ k, k + xCt b s ≤ xCt b s' ∧ ∀ n, g_X12_reads_h43 F (n + k) 1 τ = g_X12_reads_h43 F n 1 τ') ∧ FH τ' τ i D ∧ Q s' τ') ∨ (∃ fk fp τ', DdC σ' fk fp ∧ (∃ k, k + xCt b s ≤ l + 3 ∧ ∀ n, g_X12_reads_h43 F (n + k) 1 τ = some (0, τ')) ∧ FH τ' τ i D ∧ τ' 86 8 = fk ∧ τ' 86 9 = fp)
def Go (p : Nat) (q : mRs) (σ : mMem) (F : Nat) (τ : mMem) (b : Nat → Int) (l i D s : Nat) (Q : mMem → Nat → mMem → Prop) : Prop := ∃ σ', q = some (0, σ') ∧ FG σ' σ p ∧ CP σ' p ∧ Out F σ' τ b l i D s (Q σ')
theorem Go.eq {p F l i D s : Nat} {q q' : mRs} {σ τ : mMem} {b : Nat → Int} {Q : mMem → Nat → mMem → Prop} (e : q = q') (h : Go p q' σ F τ b l i D s Q) : Go p q σ F τ b l i D s Q := by rw [e]; exact h
theorem Go.t {p F l i D s : Nat} {c : Prop} [Decidable c] {A B : mRs} {σ τ : mMem} {b : Nat → Int} {Q : mMem → Nat → mMem → Prop} (h : c) (k : Go p A σ F τ b l i D s Q) : Go p (if c then A else B) σ F τ b l i D s Q := by rw [if_pos h]; exact k
theorem Go.f {p F l i D s : Nat} {c : Prop} [Decidable c] {A B : mRs} {σ τ : mMem} {b : Nat → Int} {Q : mMem → Nat → mMem → Prop} (h : ¬ c) (k : Go p B σ F τ b l i D s Q) : Go p (if c then A else B) σ F τ b l i D s Q := by rw [if_neg h]; exact k
theorem Go.c {p F l i D s : Nat} {q : mRs} {r : Int} {σ τ : mMem} {b : Nat → Int} {k : Int → mMem → mRs} {Q : mMem → Nat → mMem → Prop} (e : q = some (r, σ)) (h : Go p (k r σ) σ F τ b l i D s Q) : Go p (mob q k) σ F τ b l i D s Q := Go.eq (e_mob e rfl) h
theorem Go.post {p F l i D s : Nat} {q : mRs} {σ τ : mMem} {b : Nat → Int} {Q Q' : mMem → Nat → mMem → Prop} (h : Go p q σ F τ b l i D s Q) (g : ∀ σ' s' τ', FG σ' σ p → CP σ' p → CTk σ' b l s' → Mt σ' τ' b l → xCt b s ≤ xCt b s' → FH τ' τ i D → Q σ' s' τ' → Q' σ' s' τ') : Go p q σ F τ b l i D s Q' := by
  obtain ⟨σ', a1, a2, a3, a4⟩ := h
  refine ⟨σ', a1, a2, a3, ?_⟩
  rcases a4 with ⟨s', τ', b1, b2, b3, ⟨k, b4, b5⟩, b6, b7⟩ | d
  · exact Or.inl ⟨s', τ', b1, b2, b3, ⟨k, b4, b5⟩, b6, g σ' s' τ' a2 a3 b1 b2 (by omega) b6 b7⟩
  · exact Or.inr d
/-- a rule, then what comes behind it -/
theorem Go.bind {p F l i D D1 s : Nat} {q : mRs} {σ τ : mMem} {b : Nat → Int} {k : Int → mMem → mRs} {Q Q2 : mMem → Nat → mMem → Prop} (h : Go p q σ F τ b l i D1 s Q) (up : ∀ a c, FH a c i D1 → FH a c i D) (g : ∀ σ1 s1 τ1, FG σ1 σ p → CP σ1 p → CTk σ1 b l s1 → Mt σ1 τ1 b l → τ1 86 41 = 1 → xCt b s ≤ xCt b s1 → FH τ1 τ i D1 → Q σ1 s1 τ1 → Go p (k 0 σ1) σ1 F τ1 b l i D s1 Q2) (gd : ∀ σ1 fk fp, CP σ1 p → DdC σ1 fk fp → DR p (k 0 σ1) σ1 fk fp) : Go p (mob q k) σ F τ b l i D s Q2 := by
  obtain ⟨σ1, a1, a2, a3, a4⟩ := h
  rcases a4 with ⟨s1, τ1, b1, b2, b3, ⟨n1, b4, b5⟩, b6, b7⟩ | ⟨fk, fp, τ1, d1, ⟨n1, d2, d3⟩, d4, d5, d6⟩
  · obtain ⟨σ2, c1, c2, c3, c4⟩ := g σ1 s1 τ1 a2 a3 b1 b2 b3 (by omega) b6 b7
    refine ⟨σ2, e_mob a1 c1, c2.tr a2, c3, ?_⟩
    rcases c4 with ⟨s2, τ2, x1, x2, x3, ⟨n2, x4, x5⟩, x6, x7⟩ | ⟨fk, fp, τ2, x1, ⟨n2, x2, x3⟩, x4, x5, x6⟩
    · exact Or.inl ⟨s2, τ2, x1, x2, x3, ⟨n1 + n2, by omega, fun n => by rw [show n + (n1 + n2) = (n + n2) + n1 by omega, b5, x5]⟩, x6.tr (up _ _ b6), x7⟩
    · exact Or.inr ⟨fk, fp, τ2, x1, ⟨n1 + n2, by omega, fun n => by rw [show n + (n1 + n2) = (n + n2) + n1 by omega, b5, x3]⟩, x4.tr (up _ _ b6), x5, x6⟩
  · obtain ⟨σ2, c1, c2, c3, c4⟩ := gd σ1 fk fp a3 d1
    exact ⟨σ2, e_mob a1 c1, c2.tr a2, c3, Or.inr ⟨fk, fp, τ1, c4, ⟨n1, d2, d3⟩, up _ _ d4, d5, d6⟩⟩
/-- one sign further, then what comes behind it -/
theorem Adv.go {p F l i D D1 s : Nat} {q : mRs} {σ σ1 τ : mMem} {b : Nat → Int} {R : mMem → Prop} {Q2 : mMem → Nat → mMem → Prop} (h : Adv F σ1 τ b l i D1 s R) (f : FG σ1 σ p) (hl : xCt b s ≤ l) (up : ∀ a c, FH a c i D1 → FH a c i D) (g : ∀ s1 τ1, CTk σ1 b l s1 → xCt b s1 = xCt b s + 1 → Mt σ1 τ1 b l → FH τ1 τ i D1 → R τ1 → Go p q σ1 F τ1 b l i D s1 Q2) (gd : ∀ fk fp, DdC σ1 fk fp → DR p q σ1 fk fp) : Go p q σ F τ b l i D s Q2 := by
  rcases h with ⟨s1, τ1, b1, b2, b3, b4, b5, b6⟩ | ⟨fk, fp, τ1, d1, d3, d4, d5, d6⟩
  · obtain ⟨σ2, c1, c2, c3, c4⟩ := g s1 τ1 b1 b2 b3 b5 b6
    refine ⟨σ2, c1, c2.tr f, c3, ?_⟩
    rcases c4 with ⟨s2, τ2, x1, x2, x3, ⟨n2, x4, x5⟩, x6, x7⟩ | ⟨fk, fp, τ2, x1, ⟨n2, x2, x3⟩, x4, x5, x6⟩
    · exact Or.inl ⟨s2, τ2, x1, x2, x3, ⟨1 + n2, by omega, fun n => by rw [show n + (1 + n2) = (n + n2) + 1 by omega, b4, x5]⟩, x6.tr (up _ _ b5), x7⟩
    · exact Or.inr ⟨fk, fp, τ2, x1, ⟨1 + n2, by omega, fun n => by rw [show n + (1 + n2) = (n + n2) + 1 by omega, b4, x3]⟩, x4.tr (up _ _ b5), x5, x6⟩
  · obtain ⟨σ2, c1, c2, c3, c4⟩ := gd fk fp d1
    exact ⟨σ2, c1, c2.tr f, c3, Or.inr ⟨fk, fp, τ1, c4, ⟨3, by omega, d3⟩, up _ _ d4, d5, d6⟩⟩
/-- nothing more -/
theorem Go.ret {p F l i D s : Nat} {σ τ : mMem} {b : Nat → Int} {Q : mMem → Nat → mMem → Prop} (h : CP σ p) (c : CTk σ b l s) (hm : Mt σ τ b l) (h41 : τ 86 41 = 1) (q : Q σ s τ) : Go p (some (0, σ)) σ F τ b l i D s Q := ⟨σ, rfl, FG.rfl', h, Or.inl ⟨s, τ, c, hm, h41, ⟨0, by omega, fun n => rfl⟩, FH.rfl', q⟩⟩
theorem CTk.em {σ σ' : mMem} {b : Nat → Int} {l s p : Nat} (h : CTk σ b l s) (f : FG σ' σ p) (e : σ' 14 = σ 14) (hp : p = 3 ∨ p = 8) : CTk σ' b l s := h.cg (f.1 1 (by omega) (by omega) (by omega)) e (f.1 16 (by omega) (by omega) (by omega)) (f.1 17 (by omega) (by omega) (by omega)) (f.1 18 (by omega) (by omega) (by omega))
theorem Mt.em {σ σ' τ : mMem} {b : Nat → Int} {l p : Nat} (h : Mt σ τ b l) (f : FG σ' σ p) (e : σ' 14 = σ 14) (hp : p = 3 ∨ p = 8) : Mt σ' τ b l := h.cg (fun q hq => by
  by_cases c : q = 14
  · rw [c]; exact e
  · exact f.1 q c (by omega) (by omega)) rfl (fun _ _ => rfl)
theorem Go.emit {p F l i D s : Nat} {σ τ : mMem} {b : Nat → Int} {op arg : Int} {k : Int → mMem → mRs} {Q : mMem → Nat → mMem → Prop} (h : CP σ p) (hl : σ p 4 < 1600) (g : ∀ σ', σ' = mup (mup σ (p + 4) (σ p 4).toNat (arg * 16 + op)) p 4 (σ p 4 + 1) → CP σ' p → FG σ' σ p → σ' 14 = σ 14 → Go p (k 0 σ') σ' F τ b l i D s Q) : Go p (if σ 19 1 = 3 ∨ σ 19 1 = 8 then mob (g_X5_emit F (σ 19 1).toNat op arg σ) k else none) σ F τ b l i D s Q := by
  have hp := h.1
  rw [h.2.1, if_pos (by omega), show ((p : Int)).toNat = p by omega]
  obtain ⟨σ1, a1, a2, a3, a4, a5⟩ := c_emit (F := F) (op := op) (arg := arg) h
  obtain ⟨σ2, b1, b2, b3, b4⟩ := g σ1 (a5 hl) a3 a2 a4
  exact ⟨σ2, e_mob a1 b1, b2.tr a2, b3, b4⟩
/-! the rules' contracts; L their rank: 7 PART, 6 PRODUCT, 5 SUM, 4 SUM SIGN SUM, 3 FACT, 2 BOTH, 1 TEST -/
def Gz (σ τ : mMem) (m : Int) : Prop := (m = 5 ∧ σ 19 2 = 0 ∧ τ 86 31 = 0) ∨ (m = 7 ∧ σ 19 2 = 1 ∧ τ 86 31 = 1)
def NF (σ : mMem) : Prop := ¬ wd σ 24 ∧ ¬ mk σ 91 ∧ ¬ wd σ 25
def Pre (σ τ : mMem) (b : Nat → Int) (l p i fr s D o : Nat) (m k ph bg bse : Int) (S : List Int) (bs : List Bool) : Prop := CTk σ b l s ∧ Mt σ τ b l ∧ τ 86 41 = 0 ∧ CP σ p ∧ Fr τ i D o k ph bg bse S ∧ Cd σ τ p i [] ∧ TyC σ p fr m bs ∧ σ p 4 ≤ (xCt b s : Int) ∧ Gz σ τ m ∧ (D ≤ o ∧ o ≤ 7) ∧ (0 ≤ k ∧ k ≤ 6) ∧ (bg = 0 ∨ bg = 1) ∧ 0 ≤ bse
def cL (L : Nat) : Nat := if L = 7 then 5 else if L = 6 then 4 else if L = 5 then 3 else if L = 4 ∨ L = 3 then 2 else if L = 2 then 1 else 0
def jL (L : Nat) : Int := if 6 ≤ L then 6 else if 3 ≤ L then 5 else (L : Int)
def PreL (L : Nat) (σ : mMem) (o : Nat) (k ph bg bse : Int) (S : List Int) (bs : List Bool) : Prop := (5 ≤ L → (ph = 0 ∨ ph = 1) ∧ (isT k → bg = 0 ∨ NF σ)) ∧ (L = 4 → isT k ∧ ph = 0 ∧ NF σ) ∧ (L ≤ 3 → isT k ∧ ph = 0 ∧ bg = 1) ∧ (L ≤ 6 → Jst S bse (jL L)) ∧ S.length ≤ 6 * o + cL L ∧ bs.length ≤ 6 * o + cL L
def Post (σ : mMem) (b : Nat → Int) (p i fr s D o L : Nat) (m k ph bse : Int) (S : List Int) (bs : List Bool) (σ' : mMem) (s' : Nat) (τ' : mMem) : Prop := ∃ (P : List Int) (v : Bool) (ph' bg' : Int), (∀ x, x ∈ P → (31 ≤ x ∧ x ≤ 43) ∧ (L : Int) ≤ rk x) ∧ P.length + o + L ≤ 14 ∧ Fr τ' i D (o + nots P) k ph' bg' bse (P ++ S) ∧ (bg' = 0 ∨ bg' = 1) ∧ Cd σ' τ' p i P ∧ TyC σ' p fr m (v :: bs) ∧ σ' p 4 + (xCt b s : Int) ≤ σ p 4 + (xCt b s' : Int) ∧ (5 ≤ L → ph' = ph ∧ (isT k → bg' = 0)) ∧ (L ≤ 4 → v = true ∧ (ph' = 1 ∨ ph' = 2) ∧ (¬ Ar σ' ∨ ph' = 2)) ∧ (L = 6 → ¬ mk σ' 42 ∧ ¬ mk σ' 47 ∧ ¬ mk σ' 37) ∧ (L = 5 → ¬ Ar σ') ∧ (L ≤ 2 → ¬ wd σ' 23) ∧ (L ≤ 1 → ¬ wd σ' 22)
def Ok (F l p i fr : Nat) (b : Nat → Int) (m : Int) (rc : Int → mMem → mRs) (L o : Nat) : Prop := ∀ (σ τ : mMem) (s D : Nat) (k ph bg bse : Int) (S : List Int) (bs : List Bool), Pre σ τ b l p i fr s D o m k ph bg bse S bs → PreL L σ o k ph bg bse S bs → Go p (rc (o : Int) σ) σ F τ b l i D s (Post σ b p i fr s D o L m k ph bse S bs)
theorem Post.shift {σ σ1 σ' τ' : mMem} {b : Nat → Int} {p i fr s s1 D o L s' : Nat} {m k ph bse : Int} {S : List Int} {bs : List Bool} (h : Post σ1 b p i fr s1 D o L m k ph bse S bs σ' s' τ') (e : σ1 p 4 + (xCt b s : Int) ≤ σ p 4 + (xCt b s1 : Int)) : Post σ b p i fr s D o L m k ph bse S bs σ' s' τ' := by
  obtain ⟨P, v, ph', bg', a1, a2, a3, a4, a5, a6, a7, a8⟩ := h
  exact ⟨P, v, ph', bg', a1, a2, a3, a4, a5, a6, by omega, a8⟩
def Cx (F l p i : Nat) (b : Nat → Int) : Prop := 2000 ≤ F ∧ (∀ j, j < l → 0 ≤ b j ∧ b j ≤ 255) ∧ (p = 3 ∨ p = 8) ∧ (i = 0 ∨ i = 1)
theorem CTk.xl {σ : mMem} {b : Nat → Int} {l s : Nat} (h : CTk σ b l s) : xCt b s ≤ s ∧ s ≤ l ∧ l ≤ 1600 := by
  have h1 := (xCt_le (b := b) (j := 0) (k := s) (by omega)).2
  have z0 : xCt b 0 = 0 := rfl
  exact ⟨by omega, h.le, h.1.1⟩
theorem Gz.cg {σ σ' τ τ' : mMem} {m : Int} (h : Gz σ τ m) (e : σ' 19 = σ 19) (e' : τ' 86 31 = τ 86 31) : Gz σ' τ' m := by
  unfold Gz at *
  rw [e, e']
  exact h
theorem okS_bin {op : Int} {v w : Bool} {bs : List Bool} (h : 3 ≤ op ∧ op ≤ 12) (hl : bs.length ≤ 60) : okS (v :: w :: bs) (0 * 16 + op) = some (decide (10 ≤ op) :: bs) := by
  have ll : (v :: w :: bs).length = bs.length + 2 := rfl
  have e : (0 * 16 + op) % 16 = op := by omega
  unfold okS
  rw [e, if_neg (by omega), if_neg (by omega), if_neg (by omega), if_neg (by omega), if_neg (by omega), if_neg (by omega)]
theorem okS_ao {op : Int} {bs : List Bool} (h : op = 13 ∨ op = 14) (hl : bs.length ≤ 60) : okS (true :: true :: bs) (0 * 16 + op) = some (true :: bs) := by
  have ll : (true :: true :: bs).length = bs.length + 2 := rfl
  have e : (0 * 16 + op) % 16 = op := by omega
  unfold okS
  rw [e, if_neg (by omega), if_neg (by omega), if_neg (by omega), if_neg (by omega), if_neg (by omega), if_pos (by omega)]
theorem okS_not {bs : List Bool} (hl : bs.length ≤ 60) : okS (true :: bs) (0 * 16 + 2) = some (true :: bs) := by
  have ll : (true :: bs).length = bs.length + 1 := rfl
  unfold okS
  rw [if_neg (by omega), if_neg (by omega), if_neg (by omega), if_pos (by omega)]
theorem okS_if {v w : Bool} {bs : List Bool} (hl : bs.length ≤ 60) : okS (v :: w :: true :: bs) (0 * 16 + 15) = some (false :: bs) := by
  have ll : (v :: w :: true :: bs).length = bs.length + 3 := rfl
  unfold okS
  rw [if_neg (by omega), if_neg (by omega), if_neg (by omega), if_neg (by omega), if_pos (by omega)]
theorem okS_num {x : Int} {bs : List Bool} (hx : 0 ≤ x ∧ x ≤ 9999) (hl : bs.length ≤ 60) : okS bs (x * 16 + 0) = some (decide (x ≤ 1) :: bs) := by
  have e : (x * 16 + 0) / 16 = x := by omega
  unfold okS
  rw [if_neg (by omega), if_pos (by omega), e]
theorem okS_kn {x : Int} {bs : List Bool} (hx : 0 ≤ x ∧ x ≤ 6) (hl : bs.length ≤ 60) : okS bs (x * 16 + 1) = some (false :: bs) := by
  have e : (x * 16 + 1) / 16 = x := by omega
  unfold okS
  rw [if_neg (by omega), if_neg (by omega), if_pos (by omega), e, if_pos (by omega)]
