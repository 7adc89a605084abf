/-! LAYER 2: kitchen: all statements -/
/-- between two statements -/
def Bt (σ τ : mMem) (b : Nat → Int) (l p i N : Nat) : Prop := Mt σ τ b l ∧ ((∃ s, CTk σ b l s) → PlK σ τ p i) ∧ (∀ s, CTk σ b l s → σ p 4 ≤ (xCt b s : Int) ∧ (N < 80 ∨ s = l)) ∧ (∀ fk fp, DdC σ fk fp → ¬ τ 86 8 = 0 ∨ (1 ≤ τ 86 3 ∧ τ 86 3 ≤ 3)) ∧ KI true σ ∧ KI false τ
def ctail (F p : Nat) (k21 : Int → mMem → mRs) (N : Int) (σ : mMem) : mRs := if mw 80 ≤ mw N then some (N, σ) else (if ¬ mw (σ 14 7) = 0 then (k21 N σ) else some (N, σ))
theorem c_b31 {F p : Nat} {k21 : Int → mMem → mRs} {x t : Int} {σ σ1 σ2 : mMem} {X : mRs} (h1 : g_X6_readStatement F t σ = some (0, σ1)) (h2 : cFin F (x + 1) σ1 = some (0, σ2)) (h3 : ctail F p k21 (x + 1) σ2 = X) : g_X6_readInto_b31 F p k21 x t σ = X := by
  have b62 : ∀ σ0 : mMem, g_X8_takeMark F 59 σ0 = some (0, σ2) → g_X6_readInto_b62 F p k21 (x + 1) σ0 = X := fun σ0 h => by
    unfold g_X6_readInto_b62 g_X6_readInto_b87
    exact e_mob h h3
  unfold g_X6_readInto_b31
  refine e_mob h1 ?_
  unfold cFin at h2
  by_cases c : mw (x + 1) = mw 80
  · rw [if_neg (fun q => q c)] at h2
    obtain ⟨r, σ3, q1, q2⟩ := mob_some h2
    refine e_f (fun q => q c) (e_mob q1 ?_)
    by_cases cr : mw r = 0
    · rw [if_pos cr] at q2
      exact e_t cr (b62 _ q2)
    · rw [if_neg cr] at q2
      obtain ⟨r4, σ4, q3, q4⟩ := mob_some q2
      exact e_f cr (e_mob q3 (b62 _ q4))
  · rw [if_pos c] at h2
    exact e_t c (b62 _ h2)
/-- what the whole text leaves -/
def End (σ τ σ' τ' : mMem) (b : Nat → Int) (l p i : Nat) (r M : Int) : Prop := FPc σ' σ p ∧ (FPr τ' τ ∧ BF τ' τ i) ∧ RTx τ' b l ∧ ((CTk σ' b l l ∧ PlK σ' τ' p i ∧ τ' 86 8 = 0 ∧ τ' 86 9 = -1 ∧ σ' 14 11 = -1 ∧ r = M) ∨ ∃ fk fp, DdC σ' fk fp ∧ τ' 86 8 = fk ∧ τ' 86 9 = fp)
theorem CTk.k0 {σ τ : mMem} {b : Nat → Int} {l s : Nat} (c : CTk σ b l s) (r : RSg τ b l s) (v : Vw σ τ) : (s = l → σ 14 7 = 0 ∧ τ 86 3 = 0) ∧ (s < l → ¬ σ 14 7 = 0 ∧ ¬ τ 86 3 = 0) := by
  refine ⟨fun e => ?_, fun e => ?_⟩
  · rcases r with ⟨-, q, -⟩ | ⟨⟨q, -⟩, -⟩
    · rcases c.2.2.2.2.2 with ⟨-, q2, -⟩ | ⟨⟨q2, -⟩, -⟩
      · exact ⟨q2, q⟩
      · omega
    · omega
  · have h3 : ¬ τ 86 3 = 0 := by
      rcases r with ⟨q, -⟩ | ⟨-, ⟨-, -, q, -⟩ | ⟨n, -, -, -, q, -⟩ | ⟨n, -, -, -, q, -⟩⟩
      · omega
      · rw [q]; decide
      · rw [q]; decide
      · rw [q]; decide
    refine ⟨fun q => h3 ?_, h3⟩
    rcases v.2.2 with ⟨-, -, h⟩ | ⟨h, -⟩ | ⟨k, -, h, -⟩ | ⟨h, -⟩ | ⟨h, -⟩
    · exact h
    · rw [q] at h; exact absurd h (by decide)
    · rw [q] at h; exact absurd h (by decide)
    · rw [q] at h; exact absurd h (by decide)
    · rw [q] at h; exact absurd h (by decide)
theorem r_std {F : Nat} {τ : mMem} {fk fp : Int} (h : DdR τ fk fp) (hk : 1 ≤ fk ∧ fk ≤ 6) (hp : 0 ≤ fp ∧ fp ≤ 2000) : (∃ τ', g_X12_statement F τ = some (0, τ') ∧ FR τ' τ ∧ τ' 86 8 = fk ∧ τ' 86 9 = fp) ∧ ∀ x, ∃ τ', g_X12_finishes F x τ = some (0, τ') ∧ FR τ' τ ∧ τ' 86 8 = fk ∧ τ' 86 9 = fp := by
  obtain ⟨τ1, a1, a2, a3, a4⟩ := r_lexd (F := F) h hk hp
  have n : ¬ mw (τ1 86 8) ≤ 0 := by rw [a3, mw_id (by omega) (by omega)]; omega
  refine ⟨⟨τ1, ?_, a2, a3, a4⟩, fun x => ⟨τ1, ?_, a2, a3, a4⟩⟩
  · unfold g_X12_statement
    exact e_mob a1 (e_f n rfl)
  · unfold g_X12_finishes
    exact e_mob a1 (e_f n rfl)
theorem j_stopl {F l p i N m : Nat} {b : Nat → Int} {σ τ : mMem} (h : Bt σ τ b l p i N) (c : CTk σ b l l) (hm : 1 ≤ m) : g_X12_kitchen_h102 F m (N : Int) τ = g_X12_kitchen_b131 F (N : Int) τ ∧ σ 14 7 = 0 ∧ End σ τ σ τ b l p i (N : Int) (N : Int) := by
  obtain ⟨h1, h2, h3, h4, h5, h6⟩ := h
  obtain ⟨r, e8⟩ := h1.live c
  obtain ⟨lx, v, -⟩ := r_lexl (F := F) c h1
  have k0 := (c.k0 r v).1 rfl
  obtain ⟨m', rfl⟩ : ∃ m', m = m' + 1 := ⟨m - 1, by omega⟩
  refine ⟨?_, k0.1, fun _ _ _ _ => rfl, ⟨⟨fun _ _ => rfl, fun _ _ => rfl⟩, fun _ _ _ _ _ _ => rfl⟩, h1.1, Or.inl ⟨c, h2 ⟨l, c⟩, e8, h6.2 rfl e8, h5.1 rfl c.2.1, rfl⟩⟩
  conv => lhs; unfold g_X12_kitchen_h102
  rw [e8, k0.2]
  exact e_f (fun q => q (by decide)) (e_t (by decide) rfl)
theorem j_stopd {F l p i N m : Nat} {b : Nat → Int} {σ τ : mMem} {fk fp : Int} (h : Bt σ τ b l p i N) (dd : DdC σ fk fp) (hm : 2 ≤ m) : ∃ τ' M, g_X12_kitchen_h102 F m (N : Int) τ = g_X12_kitchen_b131 F M τ' ∧ End σ τ σ τ' b l p i (N : Int) M := by
  obtain ⟨h1, h2, h3, h4, -, -⟩ := h
  have dk := dd.1
  obtain ⟨m', rfl⟩ : ∃ m', m = (m' + 1) + 1 := ⟨m - 2, by omega⟩
  rcases h1.dead dd with ⟨q1, q2⟩ | ⟨q1, q2, q3⟩
  · refine ⟨τ, (N : Int), ?_, fun _ _ _ _ => rfl, ⟨⟨fun _ _ => rfl, fun _ _ => rfl⟩, fun _ _ _ _ _ _ => rfl⟩, h1.1, Or.inr ⟨fk, fp, dd, q1, q2⟩⟩
    conv => lhs; unfold g_X12_kitchen_h102
    rw [q1]
    exact e_t (by rw [mw_id (by omega) (by omega)]; omega) rfl
  · have n3 : 1 ≤ τ 86 3 ∧ τ 86 3 ≤ 3 := by
      rcases h4 fk fp dd with q | q
      · exact absurd q1 q
      · exact q
    obtain ⟨⟨τ1, a1, a2, a3, a4⟩, -⟩ := r_std (F := F) (Or.inr ⟨q1, q2, q3⟩) ⟨dk.1, dk.2.1⟩ dk.2.2
    obtain ⟨-, fin⟩ := r_std (F := F) (τ := τ1) (fk := fk) (fp := fp) (Or.inl ⟨a3, a4⟩) ⟨dk.1, dk.2.1⟩ dk.2.2
    obtain ⟨τ2, b1, b2, b3, b4⟩ := fin ((N : Int) + 1)
    have m3 : ¬ mw (τ 86 3) = 0 := by rw [mw_id (by omega) (by omega)]; omega
    refine ⟨τ2, (N : Int) + 1, ?_, fun _ _ _ _ => rfl, ⟨(b2.tr a2).pr, (b2.tr a2).bf⟩, h1.1.fr (b2.tr a2), Or.inr ⟨fk, fp, dd, b3, b4⟩⟩
    conv => lhs; unfold g_X12_kitchen_h102
    rw [q1]
    refine e_f (fun q => q (by decide)) (e_f m3 (e_mob a1 (e_mob b1 ?_)))
    conv => lhs; unfold g_X12_kitchen_h102
    rw [b3]
    exact e_t (by rw [mw_id (by omega) (by omega)]; omega) rfl
theorem End.tr {σ τ σ1 τ1 σ' τ' : mMem} {b : Nat → Int} {l p i : Nat} {r M : Int} (h : End σ1 τ1 σ' τ' b l p i r M) (f : FPc σ1 σ p) (g : FPr τ1 τ ∧ BF τ1 τ i) : End σ τ σ' τ' b l p i r M := ⟨h.1.tr f, ⟨h.2.1.1.tr g.1, BF.tr h.2.1.2 g.2⟩, h.2.2⟩
theorem k_fin {F : Nat} {N r : Int} {σ σ' : mMem} {kc : Bool} (hf : cFin F N σ = some (r, σ')) (hv : KI kc σ) : KI kc σ' := by
  unfold cFin at hf
  refine f_ite hf (fun hf => k_X8_takeMark hf hv) (fun hf => f_mob hf (fun r1 σ1 h1 hf => ?_))
  have hv1 := KI.of (fun q j hq => f_X8_isMark h1 q j (by unfold T_X8_isMark; exact id)) hv
  exact f_ite hf (fun hf => k_X8_takeMark hf hv1) (fun hf => f_mob hf (fun r2 σ2 h2 hf => k_X8_takeMark hf (k_X8_refuseMore h2 hv1)))
/-- a statement and its end, then between two again -/
theorem Bt.step {F l p i N : Nat} {b : Nat → Int} {σ τ σ1 τ1 σ2 τ2 : mMem} (hp : p = 3 ∨ p = 8) (sk : Sk σ τ σ1 τ1 b l p i) (fn : Fin σ1 τ1 σ2 τ2 b l N) (c2 : cFin F (N : Int) σ1 = some (0, σ2)) (kc : KI true σ2) (kr : KI false τ2) : Bt σ2 τ2 b l p i N ∧ FPc σ2 σ p ∧ FPr τ2 τ ∧ BF τ2 τ i := by
  obtain ⟨⟨s1, s2, s3, s4⟩, s5⟩ := sk
  obtain ⟨f1, f2, f3, f4, f5, f6⟩ := fn
  refine ⟨⟨f3, fun h => (s4 (f6 h)).fn f1 f2, fun s' c => ⟨?_, f4 s' c⟩, f5, kc, kr⟩, f1.pc.tr s1, f2.pr.tr s2.1, BF.tr f2.bf s2.2⟩
  obtain ⟨s, c1⟩ := f6 ⟨s', c⟩
  have h1 := s5 s c1
  have h2 := mo_fin _ _ c2
  rw [f1.1 p (np14 hp)]
  have h3 := c1.2.2.1
  have h4 := c.2.2.1
  omega
theorem j_loop {F l p i : Nat} {b : Nat → Int} (hF : 2000 ≤ F) (hb : ∀ j, j < l → 0 ≤ b j ∧ b j ≤ 255) : ∀ (d N n m : Nat) (σ τ : mMem), d + N = 80 → 1 ≤ N → d < n → d + 2 ≤ m → Bt σ τ b l p i N → ∃ r σ' τ' M, ctail F p (g_X6_readInto_h21 F p n) (N : Int) σ = some (r, σ') ∧ g_X12_kitchen_h102 F m (N : Int) τ = g_X12_kitchen_b131 F M τ' ∧ End σ τ σ' τ' b l p i r M := by
  intro d
  induction d with
  | zero =>
    intro N n m σ τ e1 hN hn hm bt
    have eN : N = 80 := by omega
    subst eN
    have ct : ctail F p (g_X6_readInto_h21 F p n) ((80 : Nat) : Int) σ = some (((80 : Nat) : Int), σ) := by
      unfold ctail
      exact e_t (by decide) rfl
    rcases id bt.1.2 with ⟨s, c, r, e8⟩ | ⟨fk, fp, dd, dr⟩
    · have sl : s = l := by
        rcases (bt.2.2.1 s c).2 with q | q
        · omega
        · exact q
      rw [sl] at c
      obtain ⟨a1, -, a3⟩ := j_stopl (F := F) (m := m) bt c (by omega)
      exact ⟨_, σ, τ, _, ct, a1, a3⟩
    · obtain ⟨τ', M, a1, a3⟩ := j_stopd (F := F) (m := m) bt dd (by omega)
      exact ⟨_, σ, τ', M, ct, a1, a3⟩
  | succ d ih =>
    intro N n m σ τ e1 hN hn hm bt
    have mN : mw (N : Int) = (N : Int) := mw_id (by omega) (by omega)
    have m80 : mw 80 = 80 := by decide
    have stop : σ 14 7 = 0 → ctail F p (g_X6_readInto_h21 F p n) (N : Int) σ = some ((N : Int), σ) := fun h => by
      unfold ctail
      rw [h, mN, m80]
      exact e_f (by omega) (e_f (fun q => q (by decide)) rfl)
    rcases id bt.1.2 with ⟨s, c, r, e8⟩ | ⟨fk, fp, dd, dr⟩
    · by_cases sl : s = l
      · rw [sl] at c
        obtain ⟨a1, a2, a3⟩ := j_stopl (F := F) (m := m) bt c (by omega)
        exact ⟨_, σ, τ, _, stop a2, a1, a3⟩
      · have s_l : s < l := by have := c.le; omega
        obtain ⟨b1, b2, b3, b4, b5, b6⟩ := id bt
        have hk := b2 ⟨s, c⟩
        have hp := hk.1.1
        obtain ⟨lx, v, -⟩ := r_lexl (F := F) c b1
        obtain ⟨k7, k3⟩ := (c.k0 r v).2 s_l
        have rg := c.rg hb
        have rg3 := v.num.2.1
        obtain ⟨σ1, τ1, x1, x2, x3⟩ := j_stmt (F := F) hF hb c s_l b1 hk (b3 s c).1
        obtain ⟨σ2, τ2, y1, y2, y3⟩ := j_fin (F := F) (N := N + 1) hF hb x3.1.2.2.1 (by omega)
        have kc := k_fin y1 (k_X6_readStatement x1 b5)
        have kr := k_X12_finishes y2 (k_X12_statement x2 b6)
        obtain ⟨bt2, w1, w2, w3⟩ := Bt.step (F := F) hp x3 y3 y1 kc kr
        obtain ⟨n', rfl⟩ : ∃ n', n = n' + 1 := ⟨n - 1, by omega⟩
        obtain ⟨m', rfl⟩ : ∃ m', m = m' + 1 := ⟨m - 1, by omega⟩
        obtain ⟨rr, σ', τ', M, z1, z2, z3⟩ := ih (N + 1) n' m' σ2 τ2 (by omega) (by omega) (by omega) (by omega) bt2
        have eN1 : (N : Int) + 1 = ((N + 1 : Nat) : Int) := by omega
        refine ⟨rr, σ', τ', M, ?_, ?_, z3.tr w1 ⟨w2, w3⟩⟩
        · unfold ctail
          rw [mN, m80]
          refine e_f (by omega) (e_t (by rw [mw_id (by omega) (by omega)]; exact k7) ?_)
          conv => lhs; unfold g_X6_readInto_h21
          refine e_t (by rw [mN]; omega) (c_b31 x1 (by rw [eN1]; exact y1) (by rw [eN1]; exact z1))
        · conv => lhs; unfold g_X12_kitchen_h102
          rw [e8, eN1]
          exact e_f (fun q => q (by decide)) (e_f (by rw [mw_id (by omega) (by omega)]; exact k3) (e_mob x2 (e_mob y2 z2)))
    · obtain ⟨τ', M, a1, a3⟩ := j_stopd (F := F) (m := m) bt dd (by omega)
      exact ⟨_, σ, τ', M, stop dd.2.2.2.1, a1, a3⟩
