/-! LAYER 2: kitchen, formulas: steers, goes -/
/-- which formula: 0 steers, 1 goes -/
def Kw (w a t L : Nat) (m : Int) : Prop := (w = 0 ∧ a = 5 ∧ t = 4 ∧ L = 5 ∧ m = 5) ∨ (w = 1 ∧ a = 7 ∧ t = 0 ∧ L = 1 ∧ m = 7)
theorem Kw.l {w a t L : Nat} {m : Int} (h : Kw w a t L m) : 1 ≤ L ∧ (w = 0 ∨ w = 1) ∧ ((w : Int) = 0 ∨ (w : Int) = 1) ∧ t ≤ 6 ∧ (m = 5 ∨ m = 7) ∧ (a = 5 ∨ a = 7) := by
  rcases h with ⟨rfl, rfl, rfl, rfl, rfl⟩ | ⟨rfl, rfl, rfl, rfl, rfl⟩ <;> decide
/-- what reading a formula leaves -/
def Rdd (F l p i fr t : Nat) (b : Nat → Int) (m : Int) (σ τ : mMem) : Prop := ∃ σ' τ', g_X1_rec F 80 t 0 0 σ = some (0, σ') ∧ g_X12_reads_h43 F F 1 τ = some (0, τ') ∧ FG σ' σ p ∧ CP σ' p ∧ FH τ' τ i 0 ∧ Mt σ' τ' b l ∧ ∀ s', CTk σ' b l s' → Cd σ' τ' p i [] ∧ (∃ v, TyC σ' p fr m [v]) ∧ σ' p 4 ≤ (xCt b s' : Int)
theorem RTx.fh {τ τ' : mMem} {b : Nat → Int} {l i D : Nat} (h : RTx τ b l) (f : FH τ' τ i D) : RTx τ' b l := ⟨h.1, by rw [f.2.1 2 (by decide)]; exact h.2.1, fun j hj => by rw [f.1 87 (by decide)]; exact h.2.2 j hj⟩
theorem j_core {F l p i fr s w a t L : Nat} {b : Nat → Int} {m : Int} {σ τ : mMem} (cx : Cx F l p i b) (kw : Kw w a t L m) (pre : Pre σ τ b l p i fr s 0 0 m (w : Int) 0 1 0 [] []) (preL : PreL L σ 0 (w : Int) 0 1 0 [] []) : Rdd F l p i fr t b m σ τ := by
  have hgo : Ok F l p i fr b m (fun o σ => g_X1_rec F 80 t o 0 σ) L 0 := by
    have al := ok_all (fr := fr) (m := m) cx 80 0 (by decide)
    rcases kw with ⟨-, -, rfl, rfl, -⟩ | ⟨-, -, rfl, rfl, -⟩
    · exact al.2.2.2.1 (by decide)
    · exact al.2.2.2.2.2.2.2 (by decide)
  obtain ⟨hF, hb, hp, hi⟩ := id cx
  have hm := pre.2.1
  have h4x := pre.2.2.2.2.2.2.2.1
  obtain ⟨σ', a1, a2, a3, a4⟩ := hgo σ τ s 0 (w : Int) 0 1 0 [] [] pre preL
  have xl := pre.1.xl
  rcases a4 with ⟨s1, τ1, b1, b2, b3, ⟨k, b4, b5⟩, b6, b7⟩ | ⟨fk, fp, τ1, d1, ⟨k, d2, d3⟩, d4, d5, d6⟩
  · obtain ⟨P, v, ph', bg', q1, q2, q3, q4, q5, q6, q7, q8, q9, -, q11, q12, q13⟩ := b7
    have xl1 := b1.xl
    have l1 : 1 ≤ L := kw.l.1
    have tail : (0 ≤ ph' ∧ ph' ≤ 2) ∧ (¬ Ar σ' ∨ ph' = 2) ∧ (isT (w : Int) → ph' ≠ 0 ∧ ¬ wd σ' 23 ∧ ¬ wd σ' 22) := by
      rcases kw with ⟨rfl, -, -, rfl, -⟩ | ⟨rfl, -, -, rfl, -⟩
      · have e := (q8 (by decide)).1
        exact ⟨by rw [e]; decide, Or.inl (q11 rfl), fun q => absurd q (by decide)⟩
      · obtain ⟨-, e1, e2⟩ := q9 (by decide)
        have e3 : (0 ≤ ph' ∧ ph' ≤ 2) ∧ ph' ≠ 0 := by rcases e1 with rfl | rfl <;> decide
        exact ⟨e3.1, e2, fun _ => ⟨e3.2, q12 (by decide), q13 (by decide)⟩⟩
    have w01 : (w : Int) = 0 ∨ (w : Int) = 1 := kw.l.2.2.1
    obtain ⟨t1, t2, t3⟩ := tail
    obtain ⟨τ2, c1, c2, c3, c4⟩ := j_end (F := F) (p := p) (D := 0) (o := 0) (S := []) hF hi b1 b2 b3 q3 q5 (fun x hx => ⟨(q1 x hx).1, by have := (q1 x hx).2; clear t1 t2 t3 q4 q8 q9 q11 q12 q13 kw w01; omega⟩) w01 t1 t2 t3 (by decide) (by decide) (by show P.length + 0 ≤ 399; clear t1 t2 t3 q4 q8 q9 q11 q12 q13 kw w01; omega)
    obtain ⟨n, hn⟩ : ∃ n, F = (n + 2) + k := ⟨F - 2 - k, by clear t1 t2 t3 q4 q8 q9 q11 q12 q13 kw w01; omega⟩
    refine ⟨σ', τ2, a1, ?_, a2, a3, c3.tr b6, c2, fun s' cs => ?_⟩
    · have h1 := b5 (n + 2)
      rw [← hn] at h1
      rw [h1]
      exact c1 n
    · have es := b1.same cs
      subst es
      exact ⟨c4, ⟨v, q6⟩, by clear t1 t2 t3 q4 q8 q9 q11 q12 q13 kw w01; omega⟩
  · obtain ⟨n, hn⟩ : ∃ n, F = n + k := ⟨F - k, by omega⟩
    refine ⟨σ', τ1, a1, ?_, a2, a3, d4, ⟨hm.1.fh d4, Or.inr ⟨fk, fp, d1, Or.inl ⟨d5, d6⟩⟩⟩, fun s' cs => (cs.nd d1).elim⟩
    have h1 := d3 n
    rw [← hn] at h1
    exact h1
theorem j_cored {F l p i fr t : Nat} {b : Nat → Int} {m fk fp : Int} {σ τ : mMem} (hF : 2000 ≤ F) (ht : t ≤ 6) (cp : CP σ p) (d : DdC σ fk fp) (hm : Mt σ τ b l) (h41 : τ 86 41 = 0) : Rdd F l p i fr t b m σ τ := by
  obtain ⟨σ', a1, a2, a3, a4⟩ := d_rec (F := F) hF t 80 ht (by omega) 0 0 σ fk fp cp d
  obtain ⟨τ', b1, b2, b3, b4⟩ := l_dead (F := F) (i := i) (D := 0) (hm.dead d) ⟨d.1.1, d.1.2.1⟩ d.1.2.2 (Or.inl h41)
  obtain ⟨n, hn⟩ : ∃ n, F = n + 2 := ⟨F - 2, by omega⟩
  refine ⟨σ', τ', a1, ?_, a2, a3, b2, ⟨hm.1.fh b2, Or.inr ⟨fk, fp, a4, Or.inl ⟨b3, b4⟩⟩⟩, fun s' cs => (cs.nd a4).elim⟩
  have h1 := b1 n
  rw [← hn] at h1
  exact h1
/-- the first frame -/
theorem r_reads0 {F i w : Nat} {τ : mMem} (e8 : τ 86 8 = 0) (h30 : τ 86 30 = (i : Int)) (hw : w = 0 ∨ w = 1) : ∃ τ2, (∀ X, g_X12_reads_h43 F F 1 τ2 = X → g_X12_reads F (w : Int) τ = X) ∧ Fr τ2 i 0 0 (w : Int) 0 1 0 [] ∧ τ2 86 41 = 0 ∧ (∀ q, (q < 86 ∨ (87 ≤ q ∧ q ≤ 102) ∨ 109 ≤ q) → τ2 q = τ q) ∧ ∀ j, j ≠ 37 → j ≠ 38 → j ≠ 40 → j ≠ 41 → τ2 86 j = τ 86 j := by
  obtain ⟨τ0, e0⟩ : ∃ y, y = mup (mup (mup (mup τ 86 37 0) 86 38 0) 86 40 0) 86 41 0 := ⟨_, rfl⟩
  obtain ⟨τ2, e2⟩ : ∃ y, y = mup (mup (mup (mup (mup τ0 103 0 (w : Int)) 104 0 0) 105 0 1) 107 0 0) 86 37 1 := ⟨_, rfl⟩
  have f37 : τ0 86 37 = 0 := by rw [e0, mup_ne (by decide), mup_ne (by decide), mup_ne (by decide), mup_at rfl rfl]
  have f40 : τ0 86 40 = 0 := by rw [e0, mup_ne (by decide), mup_at rfl rfl]
  have f38 : τ0 86 38 = 0 := by rw [e0, mup_ne (by decide), mup_ne (by decide), mup_at rfl rfl]
  have f41 : τ0 86 41 = 0 := by rw [e0, mup_at rfl rfl]
  have s0 : ∀ j, j ≠ 37 → j ≠ 38 → j ≠ 40 → j ≠ 41 → τ0 86 j = τ 86 j := fun j j1 j2 j3 j4 => by rw [e0, mup_ne (by omega), mup_ne (by omega), mup_ne (by omega), mup_ne (by omega)]
  have o0 : ∀ q, q ≠ 86 → τ0 q = τ q := fun q hq => by rw [e0, mup_off hq, mup_off hq, mup_off hq, mup_off hq]
  have s2 : ∀ j, j ≠ 37 → τ2 86 j = τ0 86 j := fun j hj => by rw [e2, mup_ne (by omega), mup_off (by decide), mup_off (by decide), mup_off (by decide), mup_off (by decide)]
  have z0 : mw 0 = 0 := by decide
  have push : g_X12_pushes F (w : Int) τ0 = some (0, τ2) := by
    unfold g_X12_pushes
    rw [f37]
    refine e_t (by decide) (e_mem ?_)
    rw [mup_off (o := 103) (q := 86) (by decide), f37]
    refine e_t (by decide) (e_mem ?_)
    rw [mup_off (o := 104) (q := 86) (by decide), mup_off (o := 103) (q := 86) (by decide), f37]
    refine e_t (by decide) (e_mem ?_)
    rw [mup_off (o := 105) (q := 86) (by decide), mup_off (o := 104) (q := 86) (by decide), mup_off (o := 103) (q := 86) (by decide), f37, f40]
    refine e_t (by decide) (e_mem (e_mem ?_))
    rw [mup_off (o := 107) (q := 86) (by decide), mup_off (o := 105) (q := 86) (by decide), mup_off (o := 104) (q := 86) (by decide), mup_off (o := 103) (q := 86) (by decide), f37]
    rw [e2]
    rfl
  refine ⟨τ2, fun X hX => ?_, ⟨⟨?_, ?_, ?_, ?_⟩, ⟨?_, ?_, ?_, ?_⟩, trivial⟩, ?_, fun q hq => ?_, fun j j1 j2 j3 j4 => ?_⟩
  · unfold g_X12_reads g_X12_reads_b38
    rw [e8]
    refine e_t (by decide) (e_mem (e_mem (e_mem (e_t (by decide) (e_mem ?_)))))
    rw [← e0]
    rcases hw with rfl | rfl
    · exact e_t (by decide) (e_mob push hX)
    · exact e_f (by decide) (e_mob push hX)
  · rw [e2, mup_at rfl rfl]; rfl
  · rw [s2 38 (by decide)]; exact f38
  · rw [s2 40 (by decide)]; exact f40
  · rw [s2 30 (by decide), s0 30 (by decide) (by decide) (by decide) (by decide)]; exact h30
  · rw [e2, mup_off (by decide), mup_off (by decide), mup_off (by decide), mup_off (by decide), mup_at rfl rfl]
  · rw [e2, mup_off (by decide), mup_off (by decide), mup_off (by decide), mup_at rfl rfl]
  · rw [e2, mup_off (by decide), mup_off (by decide), mup_at rfl rfl]
  · rw [e2, mup_off (by decide), mup_at rfl rfl]
  · rw [s2 41 (by decide)]; exact f41
  · rw [e2, mup_off (by omega), mup_off (by omega), mup_off (by omega), mup_off (by omega), mup_off (by omega)]
    exact o0 q (by omega)
  · rw [s2 j j1, s0 j j1 j2 j3 j4]
theorem c_rdS {F p : Nat} {σ σ4 σ9 : mMem} (hp : p = 3 ∨ p = 8) (n : g_X8_next F (mup (mup σ 19 1 (p : Int)) 19 2 0) = some (0, σ4)) (e : σ4 19 1 = (p : Int)) (r : g_X1_rec F 80 4 0 0 (mup σ4 p 5 (σ4 p 4)) = some (0, σ9)) (e9 : σ9 19 1 = (p : Int)) : g_X1_readSteers F p σ = some (0, mup σ9 p 6 (σ9 p 4)) := by
  unfold g_X1_readSteers
  have tn : ((p : Int)).toNat = p := by omega
  have hp' : (p : Int) = 3 ∨ (p : Int) = 8 := by omega
  refine e_mem (e_t (by decide) (e_mem (e_mob n ?_)))
  rw [e, tn]
  refine e_t hp' (e_t hp' (e_mem (e_mob r ?_)))
  rw [e9, tn]
  exact e_t hp' (e_t hp' rfl)
theorem c_rdG {F p : Nat} {σ σ4 σ9 : mMem} (hp : p = 3 ∨ p = 8) (n : g_X8_next F (mup (mup σ 19 1 (p : Int)) 19 2 1) = some (0, σ4)) (e : σ4 19 1 = (p : Int)) (r : g_X1_rec F 80 0 0 0 (mup σ4 p 7 (σ4 p 4)) = some (0, σ9)) (e9 : σ9 19 1 = (p : Int)) : g_X1_readGoes F p σ = some (0, mup σ9 p 8 (σ9 p 4)) := by
  unfold g_X1_readGoes
  have tn : ((p : Int)).toNat = p := by omega
  have hp' : (p : Int) = 3 ∨ (p : Int) = 8 := by omega
  refine e_mem (e_t (by decide) (e_mem (e_mob n ?_)))
  rw [e, tn]
  refine e_t hp' (e_t hp' (e_mem (e_mob r ?_)))
  rw [e9, tn]
  exact e_t hp' (e_t hp' rfl)
theorem r_rd {F i w : Nat} {τ τ1 τ3 : mMem} (hi : i = 0 ∨ i = 1) (hw : w = 0 ∨ w = 1) (h30 : τ 86 30 = (i : Int)) (e8 : τ 86 8 = 0) (h98 : τ 98 (2 * i + w) = -1) (a1 : g_X12_ahead F τ = some (0, τ1)) (e81 : τ1 86 8 = 0) (r : g_X12_reads F (w : Int) (mup (mup τ1 86 31 (w : Int)) 98 (2 * i + w) (τ1 86 29)) = some (0, τ3)) : g_X12_reading F (w : Int) τ = some (0, mup τ3 99 (2 * i + w) (τ3 86 29)) := by
  have my : mw (2 * (i : Int) + (w : Int)) = ((2 * i + w : Nat) : Int) := by rw [mw_id (by omega) (by omega)]; omega
  have ry : 0 ≤ ((2 * i + w : Nat) : Int) ∧ ((2 * i + w : Nat) : Int) < 4 := by omega
  have ty : (((2 * i + w : Nat) : Int)).toNat = 2 * i + w := by omega
  have cnt : g_X12_counts F 0 τ = some (1, τ1) := by
    unfold g_X12_counts g_X12_counts_b21 g_X12_counts_b32 g_X12_counts_b44
    rw [e8]
    refine e_f (fun q => q (by decide)) (e_t (by decide) (e_f (fun q => q (by decide)) (e_mob a1 ?_)))
    rw [e81]
    exact e_f (fun q => q (by decide)) (e_t (by decide) rfl)
  have b67 : g_X12_reading_b67 F (2 * (i : Int) + (w : Int)) (w : Int) (mup (mup τ1 86 31 (w : Int)) 98 (2 * i + w) (τ1 86 29)) = some (0, mup τ3 99 (2 * i + w) (τ3 86 29)) := by
    unfold g_X12_reading_b67
    refine e_mob r ?_
    rw [my, ty]
    exact e_t ry rfl
  have b43 : g_X12_reading_b43 F (w : Int) (2 * (i : Int) + (w : Int)) (w : Int) τ1 = some (0, mup τ3 99 (2 * i + w) (τ3 86 29)) := by
    unfold g_X12_reading_b43
    refine e_t (by rw [mw_id (by omega) (by omega)]; omega) (e_mem ?_)
    rw [my, ty, show mup τ1 86 31 (w : Int) 86 29 = τ1 86 29 by rw [mup_ne (by decide)]]
    refine e_t ry (e_mem ?_)
    rcases hw with rfl | rfl
    · exact e_t (by decide) b67
    · exact e_f (fun q => q (by decide)) b67
  unfold g_X12_reading g_X12_reading_b25
  refine e_let ?_
  rw [h30, my, ty, h98]
  refine e_t ry (e_t (by decide) (e_mob cnt (e_t (by decide) ?_)))
  rcases hw with rfl | rfl
  · exact e_t (by decide) b43
  · exact e_f (fun q => q (by decide)) b43
theorem FoK.mono {σ σ' τ τ' : mMem} {p i a w : Nat} {m : Int} (h : FoK σ τ p i a w m) (ea : σ' p a = σ p a) (eb : σ' p (a + 1) = σ p (a + 1)) (e4 : σ p 4 ≤ σ' p 4) (ec : ∀ j : Nat, (j : Int) < σ p 4 → σ' (p + 4) j = σ (p + 4) j) (e8 : τ' 98 (2 * i + w) = τ 98 (2 * i + w)) (e9 : τ' 99 (2 * i + w) = τ 99 (2 * i + w)) : FoK σ' τ' p i a w m := by
  rcases h with ⟨h1, h2, h3⟩ | ⟨h1, h2, h3, ⟨c, h4⟩, h5⟩
  · exact Or.inl ⟨by rw [ea]; exact h1, by rw [eb]; exact h2, by rw [e8]; exact h3⟩
  · refine Or.inr ⟨by rw [ea, eb]; omega, by rw [e8, ea]; exact h2, by rw [e9, eb]; exact h3, ⟨c, ?_⟩, ?_⟩
    · rw [ea, eb, okR_cg (code := σ (p + 4)) _ _ _ (fun j j1 j2 => ec j (by omega))]
      exact h4
    · rw [ea, eb]
      intro j j1 j2
      rw [ec j (by omega)]
      exact h5 j j1 j2
