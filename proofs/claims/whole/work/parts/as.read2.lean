/-! LAYER 2: kitchen: steers, goes: what they leave -/
theorem TyC.pos {σ : mMem} {p fr : Nat} {m : Int} {v : Bool} (h : TyC σ p fr m [v]) : (fr : Int) < σ p 4 ∧ okR (σ (p + 4)) (σ p 4 - (fr : Int)).toNat fr [] = some [v] ∧ knOK (σ (p + 4)) m (σ p 4 - (fr : Int)).toNat fr := by
  obtain ⟨n, h1, h2, h3⟩ := h
  have en : (σ p 4 - (fr : Int)).toNat = n := by omega
  rw [en]
  refine ⟨?_, h2, h3⟩
  cases n with
  | zero => exact absurd h2 (by intro q; cases q)
  | succ n => omega
theorem j_form {F l p i s w a t L : Nat} {b : Nat → Int} {m : Int} {σ τ : mMem} (hF : 2000 ≤ F) (hb : ∀ j, j < l → 0 ≤ b j ∧ b j ≤ 255) (c : CTk σ b l s) (hs : s < l) (hm : Mt σ τ b l) (hk : PlK σ τ p i) (hx : σ p 4 ≤ (xCt b s : Int)) (kw : Kw w a t L m) (h98 : τ 98 (2 * i + w) = -1) : ∃ σ4 σ9 τ', g_X8_next F (mup (mup σ 19 1 (p : Int)) 19 2 (w : Int)) = some (0, σ4) ∧ σ4 19 1 = (p : Int) ∧ g_X1_rec F 80 t 0 0 (mup σ4 p a (σ4 p 4)) = some (0, σ9) ∧ σ9 19 1 = (p : Int) ∧ g_X12_reading F (w : Int) τ = some (0, τ') ∧ Sj σ τ (mup σ9 p (a + 1) (σ9 p 4)) τ' b l p i ∧ ∀ s', CTk (mup σ9 p (a + 1) (σ9 p 4)) b l s' → mup σ9 p (a + 1) (σ9 p 4) p 4 ≤ (xCt b s' : Int) := by
  obtain ⟨⟨hp, hi, h13, h30⟩, kf, kb, kt, ⟨k1, k2, k3⟩, kc, ko5, ko7⟩ := id hk
  obtain ⟨-, hw, -, t6, -, ha⟩ := kw.l
  obtain ⟨σ0, e0⟩ : ∃ y, y = mup (mup σ 19 1 (p : Int)) 19 2 (w : Int) := ⟨_, rfl⟩
  have q0 : ∀ q, q ≠ 19 → σ0 q = σ q := fun q hq => by rw [e0, mup_off hq, mup_off hq]
  have s1 : σ0 19 1 = (p : Int) := by rw [e0, mup_ne (by decide), mup_at rfl rfl]
  have s2 : σ0 19 2 = (w : Int) := by rw [e0, mup_at rfl rfl]
  have ct0 : CTk σ0 b l s := c.cg (q0 1 (by decide)) (q0 14 (by decide)) (q0 16 (by decide)) (q0 17 (by decide)) (q0 18 (by decide))
  have hm0 : Mt σ0 τ b l := hm.cg (fun q hq => q0 q (by omega)) rfl (fun _ _ => rfl)
  obtain ⟨σ4, n1, n2, n3, n4⟩ := j_adv2 (F := F) hF hb ct0 hs
  obtain ⟨τ1, a1, a2, a3⟩ := n4 τ hm0
  have e8 : τ 86 8 = 0 := (hm.live c).2
  have e81 : τ1 86 8 = 0 := by rw [a2.fkr.1]; exact e8
  have p14 : p ≠ 14 := np14 hp
  have p19 : p ≠ 19 := by clear ko5 ko7 kw; omega
  have e4p : σ4 p = σ p := by rw [n2.1 p p14, q0 p p19]
  have e4c : σ4 (p + 4) = σ (p + 4) := by rw [n2.1 (p + 4) (by clear ko5 ko7 kw; omega), q0 (p + 4) (by clear ko5 ko7 kw; omega)]
  have e419 : σ4 19 = σ0 19 := n2.1 19 (by decide)
  have t1o : ∀ q, q ≠ 86 → τ1 q = τ q := a2.1
  have t1s : ∀ j, j ≠ 3 → j ≠ 4 → j ≠ 5 → j ≠ 6 → j ≠ 7 → j ≠ 12 → τ1 86 j = τ 86 j := a2.2
  obtain ⟨τm, em⟩ : ∃ y, y = mup (mup τ1 86 31 (w : Int)) 98 (2 * i + w) (τ1 86 29) := ⟨_, rfl⟩
  have tmo : ∀ q, q ≠ 86 → q ≠ 98 → τm q = τ q := fun q h1 h2 => by rw [em, mup_off h2, mup_off h1]; exact t1o q h1
  have tms : ∀ j, j ≠ 31 → τm 86 j = τ1 86 j := fun j h1 => by rw [em, mup_off (by decide), mup_ne (by omega)]
  have tm31 : τm 86 31 = (w : Int) := by rw [em, mup_off (by decide), mup_at rfl rfl]
  have t29 : τ1 86 29 = τ 86 29 := t1s 29 (by decide) (by decide) (by decide) (by decide) (by decide) (by decide)
  obtain ⟨τ2, r1, r2, r3, r4, r5⟩ := r_reads0 (F := F) (τ := τm) (i := i) (w := w) (by rw [tms 8 (by decide)]; exact e81) (by rw [tms 30 (by decide), t1s 30 (by decide) (by decide) (by decide) (by decide) (by decide) (by decide)]; exact h30) hw
  have hm4 : Mt σ4 τm b l := a3.cg (fun _ _ => rfl) (by rw [em, mup_off (by decide), mup_off (by decide)]) (fun j hj => tms j (by omega))
  obtain ⟨σ2, e2⟩ : ∃ y, y = mup σ4 p a (σ4 p 4) := ⟨_, rfl⟩
  have q2 : ∀ q, q ≠ p → σ2 q = σ4 q := fun q hq => by rw [e2, mup_off hq]
  have hm2 : Mt σ2 τ2 b l := hm4.cg (fun q hq => q2 q (by clear ko5 ko7 kw; omega)) (r4 87 (by decide)) (fun j hj => r5 j (by omega) (by omega) (by omega) (by omega))
  have e24 : σ2 p 4 = σ p 4 := by rw [e2, mup_ne (by clear ko5 ko7 kw; omega), e4p]
  have e2c : σ2 (p + 4) = σ (p + 4) := by rw [q2 (p + 4) (by omega)]; exact e4c
  have e219 : σ2 19 = σ0 19 := by rw [q2 19 (by clear ko5 ko7 kw; omega)]; exact e419
  have cp2 : CP σ2 p := ⟨hp, by rw [e219]; exact s1, by rw [e24]; exact ⟨k2, k3⟩⟩
  have tt29 : τ2 86 29 = τ 86 29 := by rw [r5 29 (by decide) (by decide) (by decide) (by decide), tms 29 (by decide)]; exact t29
  have tt100 : ∀ q, (q = 100 ∨ q = 101) → τ2 q = τ q := fun q hq => by rw [r4 q (by omega)]; exact tmo q (by omega) (by omega)
  have fr4 : σ p 4 = (((σ p 4).toNat : Nat) : Int) := by omega
  have rd : Rdd F l p i (σ p 4).toNat t b m σ2 τ2 := by
    have qs : ∀ q, q = 1 ∨ (14 ≤ q ∧ q ≤ 18) → σ2 q = σ4 q := fun q hq => q2 q (by clear ko5 ko7 kw; omega)
    rcases n3 with ⟨z1, ct4, x1⟩ | ⟨fk, fp, d⟩
    · have ct2 : CTk σ2 b l z1 := ct4.cg (qs 1 (by decide)) (qs 14 (by decide)) (qs 16 (by decide)) (qs 17 (by decide)) (qs 18 (by decide))
      have cd2 : Cd σ2 τ2 p i [] := ⟨(σ p 4).toNat, by rw [tt29, k1]; exact fr4, by rw [e24]; show σ p 4 = _ + 0; omega, by show (σ p 4).toNat + 0 ≤ 1600; omega, fun j hj => by rw [tt100 100 (Or.inl rfl), tt100 101 (Or.inr rfl), e2c]; exact kc j (by omega), trivial⟩
      have ty2 : TyC σ2 p (σ p 4).toNat m [] := ⟨0, by rw [e24]; omega, rfl, fun j j1 j2 => absurd j1 (by omega)⟩
      have gz2 : Gz σ2 τ2 m := by
        have h31 : τ2 86 31 = (w : Int) := by rw [r5 31 (by decide) (by decide) (by decide) (by decide)]; exact tm31
        have h192 : σ2 19 2 = (w : Int) := by rw [e219]; exact s2
        rcases kw with ⟨rfl, -, -, -, rfl⟩ | ⟨rfl, -, -, -, rfl⟩
        · exact Or.inl ⟨rfl, h192, h31⟩
        · exact Or.inr ⟨rfl, h192, h31⟩
      refine j_core (s := z1) ⟨hF, hb, hp, hi⟩ kw ⟨ct2, hm2, r3, cp2, r2, cd2, ty2, by rw [e24]; clear ko5 ko7 kw gz2; omega, gz2, ⟨by decide, by decide⟩, by clear ko5 ko7 kw gz2; omega, Or.inr rfl, Int.le_refl 0⟩ ?_
      rcases kw with ⟨rfl, -, -, rfl, rfl⟩ | ⟨rfl, -, -, rfl, rfl⟩
      · exact ⟨fun _ => ⟨Or.inl rfl, fun q => absurd q (by decide)⟩, fun q => absurd q (by decide), fun q => absurd q (by decide), fun _ => Or.inl rfl, by decide, by decide⟩
      · exact ⟨fun q => absurd q (by decide), fun q => absurd q (by decide), fun _ => ⟨by decide, rfl, rfl⟩, fun _ => Or.inl rfl, by decide, by decide⟩
    · refine j_cored hF t6 cp2 (fk := fk) (fp := fp) ?_ hm2 r3
      unfold DdC at *
      rw [qs 14 (by decide)]
      exact d
  obtain ⟨σ9, τ3, z1, z2, z3, z4, z5, z6, z7⟩ := rd
  rw [em] at r1
  have read := r_rd (F := F) hi hw h30 e8 h98 a1 e81 (r1 _ z2)
  rw [e2] at z1
  refine ⟨σ4, σ9, _, by rw [← e0]; exact n1, by rw [e419]; exact s1, z1, z4.2.1, read, ?_, ?_⟩
  · obtain ⟨σf, ef⟩ : ∃ y, y = mup σ9 p (a + 1) (σ9 p 4) := ⟨_, rfl⟩
    obtain ⟨τf, et⟩ : ∃ y, y = mup τ3 99 (2 * i + w) (τ3 86 29) := ⟨_, rfl⟩
    rw [← ef, ← et]
    have fo : ∀ q, q ≠ 14 → q ≠ 19 → q ≠ p → q ≠ p + 4 → σf q = σ q := fun q h1 h2 h3 h4 => by
      rw [ef, mup_off h3, z3.1 q h1 h3 h4, q2 q h3, n2.1 q h1, q0 q h2]
    have fp : ∀ j, j ≠ 4 → j ≠ a → j ≠ a + 1 → σf p j = σ p j := fun j h1 h2 h3 => by
      rw [ef, mup_ne (by omega), z3.2.1 j h1, e2, mup_ne (by omega), e4p]
    have f4 : σf p 4 = σ9 p 4 := by rw [ef, mup_ne (by clear ko5 ko7 kw; omega)]
    have fa : σf p a = σ p 4 := by rw [ef, mup_ne (by omega), z3.2.1 a (by clear ko5 ko7 kw; omega), e2, mup_at rfl rfl, e4p]
    have fb : σf p (a + 1) = σ9 p 4 := by rw [ef, mup_at rfl rfl]
    have g4 : σ p 4 ≤ σf p 4 := by have := z3.2.2.2.1; rw [e24] at this; rw [f4]; exact this
    have fc9 : σf (p + 4) = σ9 (p + 4) := by rw [ef, mup_off (by omega)]
    have fc : ∀ j : Nat, (j : Int) < σ p 4 → σf (p + 4) j = σ (p + 4) j := fun j hj => by
      rw [fc9, z3.2.2.1 j (by rw [e24]; exact hj), e2c]
    have to : ∀ q, (q < 86 ∨ (87 ≤ q ∧ q ≤ 97) ∨ q = 102 ∨ 109 ≤ q) → τf q = τ q := fun q hq => by
      rw [et, mup_off (by omega), z5.1 q (by omega), r4 q (by omega)]
      exact tmo q (by omega) (by omega)
    have t98 : ∀ j, j ≠ 2 * i + w → τf 98 j = τ 98 j := fun j hj => by
      rw [et, mup_off (by decide), z5.1 98 (by decide), r4 98 (by decide), em, mup_ne (by omega), mup_off (by decide), t1o 98 (by decide)]
    have t98a : τf 98 (2 * i + w) = σ p 4 := by
      rw [et, mup_off (by decide), z5.1 98 (by decide), r4 98 (by decide), em, mup_at rfl rfl, t29]; exact k1
    have t99 : ∀ j, j ≠ 2 * i + w → τf 99 j = τ 99 j := fun j hj => by
      rw [et, mup_ne (by omega), z5.1 99 (by decide), r4 99 (by decide)]
      rw [tmo 99 (by decide) (by decide)]
    have t99a : τf 99 (2 * i + w) = τ3 86 29 := by rw [et, mup_at rfl rfl]
    have t86 : ∀ j, (j < 3 ∨ j = 10 ∨ j = 11 ∨ j = 13 ∨ j = 30 ∨ 45 ≤ j) → τf 86 j = τ 86 j := fun j hj => by
      rw [et, mup_off (by decide), z5.2.1 j (by omega), r5 j (by omega) (by omega) (by omega) (by omega), tms j (by omega)]
      exact t1s j (by omega) (by omega) (by omega) (by omega) (by omega) (by omega)
    have t100 : ∀ q j : Nat, (q = 100 ∨ q = 101) → ((j : Int) < 1600 * (i : Int) + τ 86 29 ∨ 1600 * i + 1600 ≤ j) → τf q j = τ q j := fun q j hq hj => by
      rw [et, mup_off (by omega), z5.2.2.1 q j hq (by rw [tt29]; exact hj), tt100 q hq]
    refine ⟨fun q h1 h2 h3 => fo q h1 h2 (by omega) (by omega), ⟨⟨fun q hq => to q (by omega), t86⟩, ?_⟩, ?_, ?_⟩
    · intro q j h1 h2 h3 h4
      by_cases c98 : q = 98
      · subst c98
        have bw2 : bw 98 = 2 := rfl
        rw [bw2] at h3 h4
        exact t98 j (by clear ko5 ko7 kw; rcases hi with rfl | rfl <;> omega)
      by_cases c99 : q = 99
      · subst c99
        have bw2 : bw 99 = 2 := rfl
        rw [bw2] at h3 h4
        exact t99 j (by clear ko5 ko7 kw; rcases hi with rfl | rfl <;> omega)
      by_cases c100 : q = 100 ∨ q = 101
      · have bw2 : bw q = 1600 := by rcases c100 with rfl | rfl <;> rfl
        rw [bw2] at h3 h4
        exact t100 q j c100 (by rw [k1]; clear ko5 ko7 kw; rcases hi with rfl | rfl <;> omega)
      rw [to q (by omega)]
    · exact z6.cg (fun q hq => by rw [ef, mup_off (by clear ko5 ko7 kw; omega)]) (by rw [et, mup_off (by decide)]) (fun j _ => by rw [et, mup_off (by decide)])
    · rintro ⟨s', cs⟩
      have q9 : ∀ q, q = 1 ∨ (14 ≤ q ∧ q ≤ 18) → σ9 q = σf q := fun q hq => by rw [ef, mup_off (by clear ko5 ko7 kw; omega)]
      have cs9 : CTk σ9 b l s' := cs.cg (q9 1 (by decide)) (q9 14 (by decide)) (q9 16 (by decide)) (q9 17 (by decide)) (q9 18 (by decide))
      obtain ⟨cd9, ⟨v, ty9⟩, h9⟩ := z7 s' cs9
      obtain ⟨ps1, ps2, ps3⟩ := ty9.pos
      rw [← fr4] at ps1 ps2 ps3
      obtain ⟨n, c1, c2, c3, c4, -⟩ := cd9
      have c2' : σ9 p 4 = (n : Int) + 0 := c2
      have c3' : n + 0 ≤ 1600 := c3
      have new : FoK σf τf p i a w m := Or.inr ⟨⟨by rw [fa]; exact k2, by rw [fa, fb]; exact ps1, by rw [fb, f4]; exact Int.le_refl _⟩, by rw [t98a, fa], by rw [t99a, fb, c1]; omega, ⟨v, by rw [fa, fb, fc9]; exact ps2⟩, by rw [fa, fb, fc9]; exact ps3⟩
      have old : ∀ (a' w' : Nat) (m' : Int), a' ≠ 4 → a' ≠ a → a' ≠ a + 1 → a' + 1 ≠ 4 → a' + 1 ≠ a → w' ≠ w → FoK σ τ p i a' w' m' → FoK σf τf p i a' w' m' := fun a' w' m' h1 h2 h3 h4 h5 h6 h => h.mono (fp a' h1 h2 h3) (fp (a' + 1) h4 h5 (by omega)) g4 fc (t98 _ (by omega)) (t99 _ (by omega))
      refine ⟨⟨hp, hi, by rw [fo 13 (by decide) (by decide) (by clear ko5 ko7 kw; omega) (by clear ko5 ko7 kw; omega)]; exact h13, by rw [t86 30 (by decide)]; exact h30⟩, ?_, ?_, ?_, ⟨⟨by rw [et, mup_off (by decide), f4, c1]; omega, by rw [f4]; omega, by rw [f4]; omega⟩, fun j hj => ?_, ?_, ?_⟩⟩
      · unfold FlK at *
        rw [fp 9 (by decide) (by clear ko5 ko7 kw; omega) (by clear ko5 ko7 kw; omega), fp 10 (by decide) (by clear ko5 ko7 kw; omega) (by clear ko5 ko7 kw; omega), to 88 (by decide), to 89 (by decide), to 90 (by decide), fo (p + 1) (by clear ko5 ko7 kw; omega) (by clear ko5 ko7 kw; omega) (by omega) (by omega)]
        exact kf
      · unfold BsK BxK at *
        rw [fp 11 (by decide) (by clear ko5 ko7 kw; omega) (by clear ko5 ko7 kw; omega), fp 9 (by decide) (by clear ko5 ko7 kw; omega) (by clear ko5 ko7 kw; omega), fp 10 (by decide) (by clear ko5 ko7 kw; omega) (by clear ko5 ko7 kw; omega), to 91 (by decide), to 92 (by decide), to 93 (by decide), to 94 (by decide), to 95 (by decide), to 96 (by decide), to 102 (by decide), fo (p + 2) (by clear ko5 ko7 kw; omega) (by clear ko5 ko7 kw; omega) (by omega) (by omega), fo (p + 3) (by clear ko5 ko7 kw; omega) (by clear ko5 ko7 kw; omega) (by omega) (by omega)]
        exact kb
      · unfold TdK at *
        rw [fp 12 (by decide) (by clear ko5 ko7 kw; omega) (by clear ko5 ko7 kw; omega), fp 13 (by decide) (by clear ko5 ko7 kw; omega) (by clear ko5 ko7 kw; omega), fp 14 (by decide) (by clear ko5 ko7 kw; omega) (by clear ko5 ko7 kw; omega), to 97 (by decide)]
        exact kt
      · rw [et, mup_off (by decide), mup_off (by decide), fc9]
        rw [f4] at hj
        exact c4 j (by omega)
      · rcases kw with ⟨rfl, rfl, -, -, rfl⟩ | ⟨rfl, rfl, -, -, rfl⟩
        · exact new
        · exact old 5 0 5 (by decide) (by decide) (by decide) (by decide) (by decide) (by decide) ko5
      · rcases kw with ⟨rfl, rfl, -, -, rfl⟩ | ⟨rfl, rfl, -, -, rfl⟩
        · exact old 7 1 7 (by decide) (by decide) (by decide) (by decide) (by decide) (by decide) ko7
        · exact new
  · intro s' cs
    have q9 : ∀ q, q = 1 ∨ (14 ≤ q ∧ q ≤ 18) → σ9 q = mup σ9 p (a + 1) (σ9 p 4) q := fun q hq => by rw [mup_off (by clear ko5 ko7 kw; omega)]
    have cs9 : CTk σ9 b l s' := cs.cg (q9 1 (by decide)) (q9 14 (by decide)) (q9 16 (by decide)) (q9 17 (by decide)) (q9 18 (by decide))
    rw [mup_ne (by clear ko5 ko7 kw; omega)]
    exact (z7 s' cs9).2.2
/-- a formula that there is already -/
theorem j_again {F l p i s w a t L : Nat} {b : Nat → Int} {m : Int} {σ σ1 τ : mMem} (hF : 2000 ≤ F) (c : CTk σ b l s) (hm : Mt σ τ b l) (hk : PlK σ τ p i) (kw : Kw w a t L m) (h98 : ¬ τ 98 (2 * i + w) = -1 ∧ 0 ≤ τ 98 (2 * i + w) ∧ τ 98 (2 * i + w) ≤ 1600) (n2 : FN σ1 σ) (d : DdC σ1 6 (s : Int)) : ∃ σ4 σ9 τ', g_X8_next F (mup (mup σ1 19 1 (p : Int)) 19 2 (w : Int)) = some (0, σ4) ∧ σ4 19 1 = (p : Int) ∧ g_X1_rec F 80 t 0 0 (mup σ4 p a (σ4 p 4)) = some (0, σ9) ∧ σ9 19 1 = (p : Int) ∧ g_X12_reading F (w : Int) τ = some (0, τ') ∧ Sj σ τ (mup σ9 p (a + 1) (σ9 p 4)) τ' b l p i ∧ ∀ s', ¬ CTk (mup σ9 p (a + 1) (σ9 p 4)) b l s' := by
  obtain ⟨⟨hp, hi, h13, h30⟩, -, -, -, ⟨-, k2, k3⟩, -, -, -⟩ := id hk
  obtain ⟨-, hw, -, t6, -, ha⟩ := kw.l
  have e8 : τ 86 8 = 0 := (hm.live c).2
  obtain ⟨σ0, e0⟩ : ∃ y, y = mup (mup σ1 19 1 (p : Int)) 19 2 (w : Int) := ⟨_, rfl⟩
  have q0 : ∀ q, q ≠ 19 → σ0 q = σ1 q := fun q hq => by rw [e0, mup_off hq, mup_off hq]
  have s1 : σ0 19 1 = (p : Int) := by rw [e0, mup_ne (by decide), mup_at rfl rfl]
  have d0 : DdC σ0 6 (s : Int) := by unfold DdC at *; rw [q0 14 (by decide)]; exact d
  have n1 : g_X8_next F σ0 = some (0, σ0) := c_nextd d0
  obtain ⟨σ2, e2⟩ : ∃ y, y = mup σ0 p a (σ0 p 4) := ⟨_, rfl⟩
  have q2 : ∀ q, q ≠ p → σ2 q = σ0 q := fun q hq => by rw [e2, mup_off hq]
  have d2 : DdC σ2 6 (s : Int) := by unfold DdC at *; rw [q2 14 (by clear kw; omega)]; exact d0
  have e24 : σ2 p 4 = σ p 4 := by rw [e2, mup_ne (by clear kw; omega), q0 p (by clear kw; omega), n2.1 p (np14 hp)]
  have cp2 : CP σ2 p := ⟨hp, by rw [q2 19 (by clear kw; omega)]; exact s1, by rw [e24]; exact ⟨k2, k3⟩⟩
  obtain ⟨σ9, z1, z3, z4, z6⟩ := d_rec (F := F) hF t 80 t6 (by omega) 0 0 σ2 _ _ cp2 d2
  obtain ⟨τd, d1, d3, d4, d5, -⟩ := r_die2 (F := F) hm c d
  have read : g_X12_reading F (w : Int) τ = some (0, τd) := by
    have my : mw (2 * (i : Int) + (w : Int)) = ((2 * i + w : Nat) : Int) := by rw [mw_id (by omega) (by omega)]; omega
    have ry : 0 ≤ ((2 * i + w : Nat) : Int) ∧ ((2 * i + w : Nat) : Int) < 4 := by clear kw; omega
    have ty : (((2 * i + w : Nat) : Int)).toNat = 2 * i + w := by omega
    unfold g_X12_reading g_X12_reading_b25 g_X12_counts g_X12_counts_b21 g_X12_counts_b32 g_X12_counts_b44
    refine e_let ?_
    rw [h30, my, ty, mw_m1, mw_id (z := τ 98 (2 * i + w)) (by omega) (by omega), e8]
    refine e_t ry (e_f h98.1 (e_mob (r := 0) (e_f (fun q => q (by decide)) (e_f (by decide) (e_mob d1 ?_))) (e_f (fun q => q (by decide)) rfl)))
    rw [d4]
    exact e_t (by decide) (e_t (by decide) (e_t (by decide) rfl))
  rw [e2] at z1
  have d9 : DdC (mup σ9 p (a + 1) (σ9 p 4)) 6 (s : Int) := by unfold DdC at *; rw [mup_off (by clear kw; omega)]; exact z6
  refine ⟨σ0, σ9, τd, by rw [← e0]; exact n1, s1, z1, z4.2.1, read, ⟨fun q h1 h2 h3 => ?_, ⟨d3.pr, d3.bf⟩, ⟨hm.1.fr d3, Or.inr ⟨6, (s : Int), d9, Or.inl ⟨d4, d5⟩⟩⟩, fun ⟨s', cs⟩ => (cs.nd d9).elim⟩, fun s' cs => cs.nd d9⟩
  rw [mup_off (by omega), z3.1 q h1 (by omega) (by omega), q2 q (by omega), q0 q h2, n2.1 q h1]
