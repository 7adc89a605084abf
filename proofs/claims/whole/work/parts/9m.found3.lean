/-! LAYER 2: found, the reference -/
def RSX (τ : mMem) (a : Nat → Int) (d : Int) (X : Nat → Prop) : Prop := (∀ s, s < 324 → ¬ a s = -1 → τ 121 s = a s) ∧ ∀ s, s < 324 → a s = -1 → (X s ∧ τ 121 s = d + 1) ∨ (¬ X s ∧ τ 121 s = -1)
theorem RSX.congr {τ : mMem} {a : Nat → Int} {d : Int} {X Y : Nat → Prop} (h : RSX τ a d X) (e : ∀ s, s < 324 → (X s ↔ Y s)) : RSX τ a d Y := by
  refine ⟨h.1, fun s hs ha => ?_⟩
  rcases h.2 s hs ha with ⟨x1, x2⟩ | ⟨x1, x2⟩
  · exact Or.inl ⟨(e s hs).mp x1, x2⟩
  · exact Or.inr ⟨fun q => x1 ((e s hs).mpr q), x2⟩
theorem RSX.moves {F y : Nat} {τ : mMem} {a : Nat → Int} {d c w : Int} {X : Nat → Prop} (h : RSX τ a d X) (hd : -1 ≤ d ∧ d ≤ 399) (ha : ∀ s, s < 324 → -1 ≤ a s ∧ a s ≤ 400) (hy : y < 324) (e : 4 * c + w = (y : Int)) : ∃ τ', g_X12_moves F c w (d + 1) τ = some (0, τ') ∧ (∀ q, q ≠ 121 → τ' q = τ q) ∧ RSX τ' a d (fun s => X s ∨ s = y) := by
  obtain ⟨h1, h2⟩ := h
  have rng : -1 ≤ τ 121 y ∧ τ 121 y ≤ 400 := by
    by_cases c : a y = -1
    · rcases h2 y hy c with ⟨-, x⟩ | ⟨-, x⟩ <;> omega
    · rw [h1 y hy c]; exact ha y hy
  by_cases c0 : τ 121 y = -1
  · have ay : a y = -1 := by
      by_cases c : a y = -1
      · exact c
      · exact absurd c0 (by rw [h1 y hy c]; exact c)
    refine ⟨mup τ 121 y (d + 1), ?_, fun q hq => mup_off hq, fun s hs as => ?_, fun s hs as => ?_⟩
    · unfold g_X12_moves g_X12_moves_b25
      rw [e, mwN (i := y) (by omega), c0]
      exact e_t (mwR (by omega) (by decide)) (e_f (fun e => e rfl) (e_t (mwR (by omega) (by decide)) (e_mem rfl)))
    · rw [mup_ne (fun k => as (by rw [k.2]; exact ay))]
      exact h1 s hs as
    · by_cases c : s = y
      · rw [mup_at rfl c]
        exact Or.inl ⟨Or.inr c, rfl⟩
      · rw [mup_ne (fun k => c k.2)]
        rcases h2 s hs as with ⟨x1, x2⟩ | ⟨x1, x2⟩
        · exact Or.inl ⟨Or.inl x1, x2⟩
        · exact Or.inr ⟨fun q => by rcases q with q | q; exact x1 q; exact c q, x2⟩
  · refine ⟨τ, ?_, fun _ _ => rfl, h1, fun s hs as => ?_⟩
    · unfold g_X12_moves g_X12_moves_b25
      rw [e, mwN (i := y) (by omega), mw_id (z := τ 121 y) (by omega) (by omega), mw_id (z := -1) (by decide) (by decide)]
      exact e_t (mwR (by omega) (by decide)) (e_t c0 rfl)
    · rcases h2 s hs as with ⟨x1, x2⟩ | ⟨x1, x2⟩
      · exact Or.inl ⟨Or.inl x1, x2⟩
      · refine Or.inr ⟨fun q => ?_, x2⟩
        rcases q with q | q
        · exact x1 q
        · subst q; exact c0 x2
theorem st_d4 {k : Nat} (hk : k < 324) : (mw (k : Int)).tdiv (mw 4) = ((k / 4 : Nat) : Int) := by
  rw [mw_id (z := (k : Int)) (by omega) (by omega), mw_id (z := 4) (by decide) (by decide), mtdiv (by omega)]
  omega
theorem st_m4 {k : Nat} (hk : k < 324) : (mw (k : Int)).tmod (mw 4) = ((k % 4 : Nat) : Int) := by
  rw [mw_id (z := (k : Int)) (by omega) (by omega), mw_id (z := 4) (by decide) (by decide), mtmod (by omega)]
  omega
theorem st_p1 {k : Nat} (hk : k < 324) : (mw (((k % 4 : Nat) : Int) + 1)).tmod (mw 4) = (((k % 4 + 1) % 4 : Nat) : Int) := by
  rw [mw_id (z := ((k % 4 : Nat) : Int) + 1) (by omega) (by omega), mw_id (z := 4) (by decide) (by decide), mtmod (by omega)]
  omega
theorem st_p3 {k : Nat} (hk : k < 324) : (mw (((k % 4 : Nat) : Int) + 3)).tmod (mw 4) = (((k % 4 + 3) % 4 : Nat) : Int) := by
  rw [mw_id (z := ((k % 4 : Nat) : Int) + 3) (by omega) (by omega), mw_id (z := 4) (by decide) (by decide), mtmod (by omega)]
  omega
theorem zr_98 {F p n b : Nat} {σ τ0 : mMem} {a : Nat → Int} {d : Int} (hF : 2000 ≤ F) (q : QC σ p n (σ 20 5) (σ 20 4) 0 (cB σ 21)) (hb : b < n) (hR : PlR σ p τ0) (hE : ∀ j, j < n → BEq (cB σ 21 j) (rB τ0 0 j)) (hc : ∀ j, j < n → 0 ≤ τ0 112 j ∧ τ0 112 j ≤ 80) (hd : 0 ≤ d ∧ d ≤ 399) (ha : ∀ s, s < 324 → a s = -1 ∨ (0 ≤ a s ∧ a s ≤ d)) : ∀ (m k fuel : Nat) (τ : mMem), m + k = 324 → m < fuel → (∀ q, q ≠ 121 → τ q = τ0 q) → RSX τ a d (fun t => ∃ s, s < k ∧ a s = d ∧ xE (σ p 9) (σ p 10) (cB σ 21) n b s t) → ∃ τ', (∀ k51, g_X12_found_h98 F k51 fuel (b : Int) d (k : Int) τ = k51 (b : Int) (d + 1) τ') ∧ (∀ q, q ≠ 121 → τ' q = τ0 q) ∧ RSX τ' a d (fun t => ∃ s, s < 324 ∧ a s = d ∧ xE (σ p 9) (σ p 10) (cB σ 21) n b s t) := by
  have n6 := q.1.1
  have h9 := q.2.1.1
  have h10 := q.2.1.2.1
  have ha' : ∀ s, s < 324 → -1 ≤ a s ∧ a s ≤ 400 := fun s hs => by have := ha s hs; omega
  intro m
  induction m with
  | zero =>
    intro k fuel τ e1 e2 e3 e4
    obtain ⟨f, rfl⟩ : ∃ f, fuel = f + 1 := ⟨fuel - 1, by omega⟩
    have ek : k = 324 := by omega
    subst ek
    refine ⟨τ, fun k51 => ?_, e3, e4⟩
    unfold g_X12_found_h98
    exact e_t (by decide) rfl
  | succ m ih =>
    intro k fuel τ e1 e2 e3 e4
    obtain ⟨f, rfl⟩ : ∃ f, fuel = f + 1 := ⟨fuel - 1, by omega⟩
    have k324 : k < 324 := by omega
    have v : τ 121 k = d ↔ a k = d := by
      by_cases c : a k = -1
      · rcases e4.2 k k324 c with ⟨-, x⟩ | ⟨-, x⟩ <;> omega
      · rw [e4.1 k k324 c]
    have vr : -1 ≤ τ 121 k ∧ τ 121 k ≤ 400 := by
      by_cases c : a k = -1
      · rcases e4.2 k k324 c with ⟨-, x⟩ | ⟨-, x⟩ <;> omega
      · rw [e4.1 k k324 c]; exact ha' k k324
    have nk : ((k + 1 : Nat) : Int) = (k : Int) + 1 := by omega
    by_cases ca : a k = d
    · obtain ⟨C', eC⟩ : ∃ z : Int, z = ((k / 4 % 9 : Nat) : Int) + sdc ((k % 4 : Nat) : Int) := ⟨_, rfl⟩
      obtain ⟨R', eR⟩ : ∃ z : Int, z = ((k / 36 : Nat) : Int) + sdr ((k % 4 : Nat) : Int) := ⟨_, rfl⟩
      obtain ⟨τ1, a1, a2, a3⟩ := e4.moves (F := F) (y := 4 * (k / 4) + (k % 4 + 1) % 4) (c := ((k / 4 : Nat) : Int)) (w := (((k % 4 + 1) % 4 : Nat) : Int)) (by omega) ha' (by omega) (by omega)
      obtain ⟨τ2, b1, b2, b3⟩ := a3.moves (F := F) (y := 4 * (k / 4) + (k % 4 + 3) % 4) (c := ((k / 4 : Nat) : Int)) (w := (((k % 4 + 3) % 4 : Nat) : Int)) (by omega) ha' (by omega) (by omega)
      have f2 : ∀ q, q ≠ 121 → τ2 q = τ0 q := fun q hq => by rw [b2 q hq, a2 q hq, e3 q hq]
      have hRt : ∀ μ : mMem, (∀ q, q ≠ 121 → μ q = τ0 q) → PlR σ p μ := fun μ hm => hR.same (fun q q1 q2 => hm q (by omega)) (by rw [hm 86 (by decide)])
      have of' : g_X12_off F ((k / 4 : Nat) : Int) ((k % 4 : Nat) : Int) 1 0 τ = some (if sOn (σ p 9) (σ p 10) C' R' then 9 * R' + C' else -1, τ) := zr_off (by omega) (by omega) (by decide) (by decide) (hRt τ e3) h9 h10 (by rw [eC]; omega) (by rw [eR]; omega)
      have who : sOn (σ p 9) (σ p 10) C' R' → g_X12_who F 0 (9 * R' + C') τ2 = some (xWho (cB σ 21) C' R' n, τ2) := fun on => by
        have := zr_who (F := F) (v := 0) (n := n) (c := C') (r := R') (by decide) (by omega) (hRt τ2 f2) q.2.2.1 n6 (fun j hj => by rw [show 6 * 0 + j = j by omega, f2 112 (by decide)]; exact hc j hj) (by omega) (by omega)
        rw [xWho_congr (A' := cB σ 21) (fun j hj => ?_)] at this
        · exact this
        · have e0 := hE j hj 0 (by decide)
          have e1' := hE j hj 1 (by decide)
          rw [rB_0] at e0
          rw [rB_1] at e1'
          rw [rB_0, rB_1, f2 112 (by decide), e0, e1']
          exact ⟨rfl, rfl⟩
      have wr := xWho_rng (A := cB σ 21) (c := C') (r := R') n
      have go : ∀ k51 X', (if (if sOn (σ p 9) (σ p 10) C' R' then 9 * R' + C' else -1) = -1 then (g_X12_found_h98 F k51 f (b : Int) d ((k : Int) + 1) τ2) else (mob (g_X12_who F 0 (if sOn (σ p 9) (σ p 10) C' R' then 9 * R' + C' else -1) τ2) (fun r414 σ415 => if mw r414 = mw (-1) then (g_X12_found_b194 F k51 (g_X12_found_h98 F k51 f) (b : Int) d (k : Int) (if sOn (σ p 9) (σ p 10) C' R' then 9 * R' + C' else -1) σ415) else (mob (g_X12_who F 0 (if sOn (σ p 9) (σ p 10) C' R' then 9 * R' + C' else -1) σ415) (fun r416 σ417 => if ¬ mw r416 = mw (b : Int) then (g_X12_found_h98 F k51 f (b : Int) d ((k : Int) + 1) σ417) else (g_X12_found_b194 F k51 (g_X12_found_h98 F k51 f) (b : Int) d (k : Int) (if sOn (σ p 9) (σ p 10) C' R' then 9 * R' + C' else -1) σ417)))))) = X' → g_X12_found_h98 F k51 (f + 1) (b : Int) d (k : Int) τ = X' := by
        intro k51 X' hX
        conv => lhs; unfold g_X12_found_h98 g_X12_found_b206
        rw [mwN (i := k) (by omega), v.mpr ca, st_d4 k324, st_m4 k324, st_p1 k324, st_p3 k324]
        refine e_f (by rw [mw_id (by omega) (by omega), mw_id (by omega) (by omega)]; omega) (e_t (mwR (by omega) (by decide)) (e_t rfl (e_f (by decide) (e_f (by decide) (e_mob of' (e_f (by decide) (e_f (by decide) (e_f (by decide) (e_mob a1 (e_f (by decide) (e_f (by decide) (e_f (by decide) (e_mob b1 ?_)))))))))))))
        refine Eq.trans ?_ hX
        have cr : mw (if sOn (σ p 9) (σ p 10) C' R' then 9 * R' + C' else -1) = (if sOn (σ p 9) (σ p 10) C' R' then 9 * R' + C' else -1) := by
          by_cases on : sOn (σ p 9) (σ p 10) C' R'
          · rw [if_pos on]; exact mw_id (by omega) (by omega)
          · rw [if_neg on]; decide
        rw [cr, show mw (-1) = -1 by decide]
      by_cases fw : sOn (σ p 9) (σ p 10) C' R' ∧ (xWho (cB σ 21) C' R' n = -1 ∨ xWho (cB σ 21) C' R' n = (b : Int))
      · obtain ⟨y, ey⟩ : ∃ y : Nat, (y : Int) = 4 * (9 * R' + C') + ((k % 4 : Nat) : Int) := ⟨(4 * (9 * R' + C') + ((k % 4 : Nat) : Int)).toNat, by omega⟩
        obtain ⟨τ3, c1, c2, c3⟩ := b3.moves (F := F) (y := y) (c := 9 * R' + C') (w := ((k % 4 : Nat) : Int)) (by omega) ha' (by omega) (by omega)
        obtain ⟨τ', t1, t2⟩ := ih (k + 1) f τ3 (by omega) (by omega) (fun q hq => by rw [c2 q hq, f2 q hq]) (c3.congr (fun t _ => by
          constructor
          · rintro (((⟨s, s1, s2⟩ | h) | h) | h)
            · exact ⟨s, by omega, s2⟩
            · exact ⟨k, by omega, ca, Or.inl h⟩
            · exact ⟨k, by omega, ca, Or.inr (Or.inl h)⟩
            · exact ⟨k, by omega, ca, Or.inr (Or.inr (by rw [← eC, ← eR]; exact ⟨fw.1, fw.2, by rw [h]; exact ey⟩))⟩
          · rintro ⟨s, s1, s2, s3⟩
            by_cases cs : s = k
            · subst cs
              rcases s3 with h | h | h
              · exact Or.inl (Or.inl (Or.inr h))
              · exact Or.inl (Or.inr h)
              · rw [← eC, ← eR] at h
                exact Or.inr (by have := h.2.2; omega)
            · exact Or.inl (Or.inl (Or.inl ⟨s, by omega, s2, s3⟩))))
        refine ⟨τ', fun k51 => go k51 _ ?_, t2⟩
        have b194 : g_X12_found_b194 F k51 (g_X12_found_h98 F k51 f) (b : Int) d (k : Int) (9 * R' + C') τ2 = k51 (b : Int) (d + 1) τ' := by
          unfold g_X12_found_b194 g_X12_found_b206
          rw [st_m4 k324, ← t1 k51, nk]
          exact e_f (by decide) (e_mob c1 rfl)
        rw [if_pos fw.1]
        refine e_f (by have := fw.1; omega) (e_mob (who fw.1) ?_)
        rw [mw_id (z := xWho (cB σ 21) C' R' n) (by omega) (by omega), show mw (-1) = -1 by decide]
        by_cases w1 : xWho (cB σ 21) C' R' n = -1
        · exact e_t w1 b194
        · refine e_f w1 (e_mob (who fw.1) ?_)
          rw [mw_id (z := xWho (cB σ 21) C' R' n) (by omega) (by omega), mw_id (z := (b : Int)) (by omega) (by omega)]
          exact e_f (fun e => by rcases fw.2 with h | h; exact w1 h; exact e h) b194
      · obtain ⟨τ', t1, t2⟩ := ih (k + 1) f τ2 (by omega) (by omega) f2 (b3.congr (fun t _ => by
          constructor
          · rintro ((⟨s, s1, s2⟩ | h) | h)
            · exact ⟨s, by omega, s2⟩
            · exact ⟨k, by omega, ca, Or.inl h⟩
            · exact ⟨k, by omega, ca, Or.inr (Or.inl h)⟩
          · rintro ⟨s, s1, s2, s3⟩
            by_cases cs : s = k
            · subst cs
              rcases s3 with h | h | h
              · exact Or.inl (Or.inr h)
              · exact Or.inr h
              · rw [← eC, ← eR] at h
                exact absurd ⟨h.1, h.2.1⟩ fw
            · exact Or.inl (Or.inl ⟨s, by omega, s2, s3⟩)))
        refine ⟨τ', fun k51 => go k51 _ ?_, t2⟩
        rw [← t1 k51, nk]
        by_cases on : sOn (σ p 9) (σ p 10) C' R'
        · rw [if_pos on]
          refine e_f (by omega) (e_mob (who on) ?_)
          rw [mw_id (z := xWho (cB σ 21) C' R' n) (by omega) (by omega), show mw (-1) = -1 by decide]
          refine e_f (fun h => fw ⟨on, Or.inl h⟩) (e_mob (who on) ?_)
          rw [mw_id (z := xWho (cB σ 21) C' R' n) (by omega) (by omega), mw_id (z := (b : Int)) (by omega) (by omega)]
          exact e_t (fun h => fw ⟨on, Or.inr h⟩) rfl
        · rw [if_neg on]
          exact e_t rfl rfl
    · obtain ⟨τ', t1, t2⟩ := ih (k + 1) f τ (by omega) (by omega) e3 (e4.congr (fun t _ => ⟨fun ⟨s, s1, s2⟩ => ⟨s, by omega, s2⟩, fun ⟨s, s1, s2, s3⟩ => ⟨s, by
        have : s ≠ k := fun e => ca (by rw [← e]; exact s2)
        omega, s2, s3⟩⟩))
      refine ⟨τ', fun k51 => ?_, t2⟩
      rw [← t1 k51]
      conv => lhs; unfold g_X12_found_h98 g_X12_found_b206
      rw [mwN (i := k) (by omega), mw_id (z := τ 121 k) (by omega) (by omega), mw_id (z := d) (by omega) (by omega), nk]
      exact e_f (by rw [mw_id (by omega) (by omega), mw_id (by omega) (by omega)]; omega) (e_t (mwR (by omega) (by decide)) (e_f (fun e => ca (v.mp e)) rfl))
