/-! LAYER 2: kitchen: all statements -/
/-- between two statements -/
def Bt (σ τ : mMem) (b : Nat → Int) (l p i N : Nat) : Prop := Mt σ τ b l ∧ ((∃ s, CTk σ b l s) → PlK σ τ p i) ∧ (∀ s, CTk σ b l s → σ p 4 ≤ (xCt b s : Int) ∧ (N < 80 ∨ s = l)) ∧ (∀ fk fp, DdC σ fk fp → ¬ τ 86 8 = 0 ∨ ¬ τ 86 3 = 0)
def ctail (F p : Nat) (k21 : Int → mMem → mRs) (N : Int) (σ : mMem) : mRs := if mw 80 ≤ mw N then some (N, σ) else (if ¬ mw (σ 14 7) = 0 then (k21 N σ) else some (N, σ))
theorem c_b31 {F p : Nat} {k21 : Int → mMem → mRs} {x t : Int} {σ σ1 σ2 : mMem} {X : mRs} (h1 : g_X6_readStatement F t σ = some (0, σ1)) (h2 : cFin F (x + 1) σ1 = some (0, σ2)) (h3 : ctail F p k21 (x + 1) σ2 = X) : g_X6_readInto_b31 F p k21 x t σ = X := by
  have b62 : ∀ σ0 : mMem, g_X8_takeMark F 59 σ0 = some (0, σ2) → g_X6_readInto_b62 F p k21 (x + 1) σ0 = X := fun σ0 h => by
    unfold g_X6_readInto_b62 g_X6_readInto_b87
    exact e_mob h h3
  unfold g_X6_readInto_b31
  refine e_mob h1 ?_
  unfold cFin at h2
  by_cases c : mw (x + 1) = mw 80
  · rw [if_neg (fun q => q c)] at h2
    obtain ⟨r, σ3, q1, q2⟩ := mob_some h2
    refine e_f (fun q => q c) (e_mob q1 ?_)
    by_cases cr : mw r = 0
    · rw [if_pos cr] at q2
      exact e_t cr (b62 _ q2)
    · rw [if_neg cr] at q2
      obtain ⟨r4, σ4, q3, q4⟩ := mob_some q2
      exact e_f cr (e_mob q3 (b62 _ q4))
  · rw [if_pos c] at h2
    exact e_t c (b62 _ h2)
/-- what the whole text leaves -/
def End (σ τ σ' τ' : mMem) (b : Nat → Int) (l p i : Nat) (r M : Int) : Prop := FPc σ' σ p ∧ (FPr τ' τ ∧ BF τ' τ i) ∧ RTx τ' b l ∧ ((CTk σ' b l l ∧ PlK σ' τ' p i ∧ τ' 86 8 = 0 ∧ τ' 86 9 = τ 86 9 ∧ r = M) ∨ ∃ fk fp, DdC σ' fk fp ∧ τ' 86 8 = fk ∧ τ' 86 9 = fp)
theorem CTk.k0 {σ τ : mMem} {b : Nat → Int} {l s : Nat} (c : CTk σ b l s) (r : RSg τ b l s) (v : Vw σ τ) : (s = l → σ 14 7 = 0 ∧ τ 86 3 = 0) ∧ (s < l → ¬ σ 14 7 = 0 ∧ ¬ τ 86 3 = 0) := by
  refine ⟨fun e => ?_, fun e => ?_⟩
  · rcases r with ⟨-, q, -⟩ | ⟨⟨q, -⟩, -⟩
    · rcases c.2.2.2.2.2 with ⟨-, q2, -⟩ | ⟨⟨q2, -⟩, -⟩
      · exact ⟨q2, q⟩
      · omega
    · omega
  · have h3 : ¬ τ 86 3 = 0 := by
      rcases r with ⟨q, -⟩ | ⟨-, ⟨-, -, q, -⟩ | ⟨n, -, -, -, q, -⟩ | ⟨n, -, -, -, q, -⟩⟩
      · omega
      · rw [q]; decide
      · rw [q]; decide
      · rw [q]; decide
    refine ⟨fun q => h3 ?_, h3⟩
    rcases v.2.2 with ⟨-, -, h⟩ | ⟨h, -⟩ | ⟨k, -, h, -⟩ | ⟨h, -⟩ | ⟨h, -⟩
    · exact h
    · rw [q] at h; exact absurd h (by decide)
    · rw [q] at h; exact absurd h (by decide)
    · rw [q] at h; exact absurd h (by decide)
    · rw [q] at h; exact absurd h (by decide)
theorem r_std {F : Nat} {τ : mMem} {fk fp : Int} (h : DdR τ fk fp) (hk : 1 ≤ fk ∧ fk ≤ 6) (hp : 0 ≤ fp ∧ fp ≤ 2000) : (∃ τ', g_X12_statement F τ = some (0, τ') ∧ FR τ' τ ∧ τ' 86 8 = fk ∧ τ' 86 9 = fp) ∧ ∀ x, ∃ τ', g_X12_finishes F x τ = some (0, τ') ∧ FR τ' τ ∧ τ' 86 8 = fk ∧ τ' 86 9 = fp := by
  obtain ⟨τ1, a1, a2, a3, a4⟩ := r_lexd (F := F) h hk hp
  have n : ¬ mw (τ1 86 8) ≤ 0 := by rw [a3, mw_id (by omega) (by omega)]; omega
  refine ⟨⟨τ1, ?_, a2, a3, a4⟩, fun x => ⟨τ1, ?_, a2, a3, a4⟩⟩
  · unfold g_X12_statement
    exact e_mob a1 (e_f n rfl)
  · unfold g_X12_finishes
    exact e_mob a1 (e_f n rfl)
theorem j_loop {F l p i : Nat} {b : Nat → Int} (hF : 2000 ≤ F) (hb : ∀ j, j < l → 0 ≤ b j ∧ b j ≤ 255) : ∀ (d N n m : Nat) (σ τ : mMem), d + N = 80 → 1 ≤ N → d < n → d + 2 ≤ m → Bt σ τ b l p i N → ∃ r σ' τ' M, ctail F p (g_X6_readInto_h21 F p n) (N : Int) σ = some (r, σ') ∧ g_X12_kitchen_h102 F m (N : Int) τ = g_X12_kitchen_b131 F M τ' ∧ End σ τ σ' τ' b l p i r M := by
  intro d
  induction d with
  | zero =>
    intro N n m σ τ e1 hN hn hm ⟨h1, h2, h3, h4⟩
    have eN : N = 80 := by omega
    subst eN
    have ct : ctail F p (g_X6_readInto_h21 F p n) ((80 : Nat) : Int) σ = some (((80 : Nat) : Int), σ) := by
      unfold ctail
      exact e_t (by decide) rfl
    obtain ⟨m', rfl⟩ : ∃ m', m = (m' + 1) + 1 := ⟨m - 2, by omega⟩
    rcases id h1.2 with ⟨s, c, r, e8⟩ | ⟨fk, fp, dd, dr⟩
    · obtain ⟨lx, v, -⟩ := r_lexl (F := F) c h1
      have sl : s = l := by
        rcases (h3 s c).2 with q | q
        · omega
        · exact q
      have k0 := (c.k0 r v).1 sl
      rw [sl] at c
      refine ⟨_, σ, τ, _, ct, ?_, fun _ _ _ _ => rfl, ⟨⟨fun _ _ => rfl, fun _ _ => rfl⟩, fun _ _ _ _ _ _ => rfl⟩, h1.1, Or.inl ⟨c, h2 ⟨l, c⟩, e8, rfl, rfl⟩⟩
      conv => lhs; unfold g_X12_kitchen_h102
      rw [e8, k0.2]
      exact e_f (fun q => q (by decide)) (e_t (by decide) rfl)
    · have dk := dd.1
      rcases dr with ⟨q1, q2⟩ | ⟨q1, q2, q3⟩
      · refine ⟨_, σ, τ, _, ct, ?_, fun _ _ _ _ => rfl, ⟨⟨fun _ _ => rfl, fun _ _ => rfl⟩, fun _ _ _ _ _ _ => rfl⟩, h1.1, Or.inr ⟨fk, fp, dd, q1, q2⟩⟩
        conv => lhs; unfold g_X12_kitchen_h102
        rw [q1]
        exact e_t (by rw [mw_id (by omega) (by omega)]; omega) rfl
      · have n3 : ¬ τ 86 3 = 0 := by
          rcases h4 fk fp dd with q | q
          · exact absurd q1 q
          · exact q
        obtain ⟨⟨τ1, a1, a2, a3, a4⟩, -⟩ := r_std (F := F) (Or.inr ⟨q1, q2, q3⟩) ⟨dk.1, dk.2.1⟩ dk.2.2
        obtain ⟨-, fin⟩ := r_std (F := F) (τ := τ1) (fk := fk) (fp := fp) (Or.inl ⟨a3, a4⟩) ⟨dk.1, dk.2.1⟩ dk.2.2
        obtain ⟨τ2, b1, b2, b3, b4⟩ := fin (((80 : Nat) : Int) + 1)
        refine ⟨_, σ, τ2, _, ct, ?_, fun _ _ _ _ => rfl, ⟨(b2.tr a2).pr, (b2.tr a2).bf⟩, h1.1.fr (b2.tr a2), Or.inr ⟨fk, fp, dd, b3, b4⟩⟩
        sorry
  | succ d ih =>
    sorry
