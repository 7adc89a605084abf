/-! LAYER 2: a step that is kept -/
theorem xK_c {π π' : mMem} {p n : Nat} {lamp step made made' delay : Int} {A A' : Nat → Nat → Int} (hp : PEq π π' p) (hn : (π p 11).toNat = n) (hm : ∀ k : Nat, k < n → (((k : Int) * delay ≤ made) ↔ ((k : Int) * delay ≤ made'))) (hA : ∀ k, k < n → BEq (A k) (A' k)) (s : Int × (Nat → Int)) : ∀ k, k ≤ n → xK π p lamp step made delay A k s = xK π' p lamp step made' delay A' k s
  | 0, _ => rfl
  | k + 1, hk => by
    have ih := xK_c (lamp := lamp) (step := step) hp hn hm hA s k (by omega)
    have w := (xWf_c (lamp := lamp) (step := step) hp hn hm hA (k := k) (by omega)).1
    have ps := xPs_c (lamp := lamp) (step := step) hp hn hm hA (k + 1) (by omega) k (by omega)
    unfold xK
    rw [ih, w, ps 0 (by decide), ps 1 (by decide)]
theorem xK_rng {π : mMem} {p : Nat} {lamp step made delay : Int} {A : Nat → Nat → Int} {s : Int × (Nat → Int)} : ∀ k : Nat, s.1 ≤ (xK π p lamp step made delay A k s).1 ∧ (xK π p lamp step made delay A k s).1 ≤ s.1 + k
  | 0 => by show s.1 ≤ s.1 ∧ s.1 ≤ s.1 + ((0 : Nat) : Int); omega
  | k + 1 => by
    have ih := xK_rng (π := π) (p := p) (lamp := lamp) (step := step) (made := made) (delay := delay) (A := A) (s := s) k
    unfold xK
    split
    · show s.1 ≤ (xK π p lamp step made delay A k s).1 + 1 ∧ (xK π p lamp step made delay A k s).1 + 1 ≤ s.1 + ((k + 1 : Nat) : Int)
      omega
    · omega
theorem pk_of {a b c d : Int} (h : KOK a b c d) : mor (mor (mshl a 11) (mshl b 8)) (mor (mshl d 4) c) = pk a b c d := by
  obtain ⟨h1, h2, h3, h4⟩ := h
  rw [mshl_n 11 (by omega) (by omega) (by decide), mshl_n 8 (by omega) (by omega) (by decide), mshl_n 4 (by omega) (by omega) (by decide), mor_n (a := d) 4 (by omega) (by omega) (by omega), mor_n (a := a) 11 (by omega) (by omega) (by omega), show a * 2 ^ 11 + b * 2 ^ 8 = (a * 8 + b) * 2 ^ 8 by omega, mor_n (a := a * 8 + b) 8 (by omega) (by omega) (by omega)]
  unfold pk
  omega
theorem zc_keepStep {F p n : Nat} {π σ : mMem} {lamp step : Int} {A : Nat → Nat → Int} (hF : 2000 ≤ F) (h3 : σ 20 3 = 3 ∨ σ 20 3 = 8) (h3n : (σ 20 3).toNat = p) (h11 : σ p 11 = (n : Int)) (hn : n ≤ 6) (h4 : σ 20 4 = step + 1) (hst : 0 ≤ step ∧ step ≤ 998) (hw : ∀ j, j < n → σ 22 j = xWf π p lamp step 0 0 A j) (hB : ∀ j, j < n → BEq (cB σ 21 j) (xPs π p lamp step 0 0 n A j)) (hC : ∀ j, j < n → (0 ≤ xPs π p lamp step 0 0 n A j 0 ∧ xPs π p lamp step 0 0 n A j 0 < 9) ∧ 0 ≤ xPs π p lamp step 0 0 n A j 1 ∧ xPs π p lamp step 0 0 n A j 1 < 9) (hT : 0 ≤ σ 54 2 ∧ σ 54 2 ≤ 100000000) :
    ∃ σ', g_X3_keepStep F 20 σ = some (0, σ') ∧ (∀ q, q ≠ 54 → q ≠ 76 → σ' q = σ q) ∧ (∀ j, j ≠ 2 → σ' 54 j = σ 54 j) ∧ σ' 54 2 = (xK π p lamp step 0 0 A n (σ 54 2, σ 76)).1 ∧ σ' 76 = (xK π p lamp step 0 0 A n (σ 54 2, σ 76)).2 := by
  have hp : p = 3 ∨ p = 8 := by omega
  have key : ∀ (d k fuel : Nat) (υ : mMem), d + k = n → d < fuel → (∀ q, q ≠ 54 → q ≠ 76 → υ q = σ q) → (∀ j, j ≠ 2 → υ 54 j = σ 54 j) → υ 54 2 = (xK π p lamp step 0 0 A k (σ 54 2, σ 76)).1 → υ 76 = (xK π p lamp step 0 0 A k (σ 54 2, σ 76)).2 → ∃ σ', g_X3_keepStep_h2 F 20 fuel (k : Int) υ = some (0, σ') ∧ (∀ q, q ≠ 54 → q ≠ 76 → σ' q = σ q) ∧ (∀ j, j ≠ 2 → σ' 54 j = σ 54 j) ∧ σ' 54 2 = (xK π p lamp step 0 0 A n (σ 54 2, σ 76)).1 ∧ σ' 76 = (xK π p lamp step 0 0 A n (σ 54 2, σ 76)).2 := by
    intro d
    induction d with
    | zero =>
      intro k fuel υ g1 g2 g3 g4 g5 g6
      obtain ⟨f, rfl⟩ : ∃ f, fuel = f + 1 := ⟨fuel - 1, by omega⟩
      have ek : k = n := by omega
      subst ek
      refine ⟨υ, ?_, g3, g4, g5, g6⟩
      unfold g_X3_keepStep_h2 g_X3_keepStep_b97
      rw [g3 20 (by decide) (by decide), h3n, g3 p (by omega) (by omega), h11]
      exact e_t h3 (e_t (Int.le_refl _) rfl)
    | succ d ih =>
      intro k fuel υ g1 g2 g3 g4 g5 g6
      obtain ⟨f, rfl⟩ : ∃ f, fuel = f + 1 := ⟨fuel - 1, by omega⟩
      have kn : k < n := by omega
      have w01 := xWf01 (π := π) (p := p) (lamp := lamp) (step := step) (made := 0) (delay := 0) (A := A) (k := k)
      have head : ∀ X, (if mw (xWf π p lamp step 0 0 A k) = 0 then (g_X3_keepStep_b91 F 20 (g_X3_keepStep_h2 F 20 f) (k : Int) υ) else (mob (g_X10_of F 20 (k : Int) 1 υ) (fun r102 σ103 => mob (g_X10_of F 20 (k : Int) 0 σ103) (fun r104 σ105 => mlet (mor (mshl r102 4) r104) (fun y106 => mlet (mor (mor (mshl ((σ105 20 4) - 1) 11) (mshl (k : Int) 8)) y106) (fun y107 => mob (g_J9_floorMod_7cf53 F (σ105 54 2) 60 σ105) (fun r108 σ109 => if 0 ≤ mw r108 ∧ mw r108 < (60 : Int) then mlm (mup σ109 76 (mw r108).toNat y107) (fun σ110 => mlm (mup σ110 54 2 ((σ110 54 2) + 1)) (fun σ111 => g_X3_keepStep_b91 F 20 (g_X3_keepStep_h2 F 20 f) (k : Int) σ111)) else none))))))) = X → g_X3_keepStep_h2 F 20 (f + 1) (k : Int) υ = X := by
        intro X hX
        unfold g_X3_keepStep_h2
        rw [g3 20 (by decide) (by decide), h3n, g3 p (by omega) (by omega), h11, mwN (i := k) (by omega), show υ (20 + 2) k = xWf π p lamp step 0 0 A k by rw [show 20 + 2 = 22 by decide, g3 22 (by decide) (by decide)]; exact hw k kn]
        exact e_t h3 (e_f (by rw [mw_id (by omega) (by omega), mw_id (by omega) (by omega)]; omega) (e_f (by rw [mw_id (by omega) (by omega), mw_id (by omega) (by omega)]; omega) (e_t (mwR (by omega) (by decide)) hX)))
      have xr := xK_rng (π := π) (p := p) (lamp := lamp) (step := step) (made := 0) (delay := 0) (A := A) (s := (σ 54 2, σ 76)) k
      have xr1 : σ 54 2 ≤ (xK π p lamp step 0 0 A k (σ 54 2, σ 76)).1 ∧ (xK π p lamp step 0 0 A k (σ 54 2, σ 76)).1 ≤ σ 54 2 + k := xr
      rcases w01 with w | w
      · have nx : xK π p lamp step 0 0 A (k + 1) (σ 54 2, σ 76) = xK π p lamp step 0 0 A k (σ 54 2, σ 76) := by
          conv => lhs; unfold xK
          rw [if_neg (by rw [w]; decide)]
        obtain ⟨σ', t1, t2⟩ := ih (k + 1) f υ (by omega) (by omega) g3 g4 (by rw [nx]; exact g5) (by rw [nx]; exact g6)
        refine ⟨σ', head _ ?_, t2⟩
        rw [w]
        refine e_t (by decide) ?_
        unfold g_X3_keepStep_b91
        rw [← t1, show ((k + 1 : Nat) : Int) = (k : Int) + 1 by omega]
      · have Hk := hB k kn
        have Ck := hC k kn
        have eps : xPs π p lamp step 0 0 n A k = xPs π p lamp step 0 0 (k + 1) A k := by
          have := xPs_hi (π := π) (p := p) (lamp := lamp) (step := step) (made := 0) (delay := 0) (A := A) (k := k) (n - k - 1)
          rw [show k + 1 + (n - k - 1) = n by omega] at this
          exact this
        have c1 : υ (20 + 1) (10 * k + 1) = xPs π p lamp step 0 0 (k + 1) A k 1 := by
          rw [← eps, ← Hk 1 (by decide)]
          show υ 21 (10 * k + 1) = σ 21 (10 * k + 1)
          rw [g3 21 (by decide) (by decide)]
        have c0 : υ (20 + 1) (10 * k + 0) = xPs π p lamp step 0 0 (k + 1) A k 0 := by
          rw [← eps, ← Hk 0 (by decide)]
          show υ 21 (10 * k + 0) = σ 21 (10 * k + 0)
          rw [g3 21 (by decide) (by decide)]
        rw [eps] at Ck
        have nx : xK π p lamp step 0 0 A (k + 1) (σ 54 2, σ 76) = ((xK π p lamp step 0 0 A k (σ 54 2, σ 76)).1 + 1, mup1 (xK π p lamp step 0 0 A k (σ 54 2, σ 76)).2 ((xK π p lamp step 0 0 A k (σ 54 2, σ 76)).1 % 60).toNat (pk step (k : Int) (xPs π p lamp step 0 0 (k + 1) A k 0) (xPs π p lamp step 0 0 (k + 1) A k 1))) := by
          conv => lhs; unfold xK
          rw [if_pos w]
        obtain ⟨R, hR⟩ : ∃ R : Nat, (R : Int) = (xK π p lamp step 0 0 A k (σ 54 2, σ 76)).1 % 60 := ⟨((xK π p lamp step 0 0 A k (σ 54 2, σ 76)).1 % 60).toNat, by omega⟩
        obtain ⟨V, hV⟩ : ∃ V : Int, V = pk step (k : Int) (xPs π p lamp step 0 0 (k + 1) A k 0) (xPs π p lamp step 0 0 (k + 1) A k 1) := ⟨_, rfl⟩
        obtain ⟨υ1, e1⟩ : ∃ x, x = mup (mup υ 76 R V) 54 2 ((xK π p lamp step 0 0 A k (σ 54 2, σ 76)).1 + 1) := ⟨_, rfl⟩
        obtain ⟨σ', t1, t2⟩ := ih (k + 1) f υ1 (by omega) (by omega) (fun q q1 q2 => by rw [e1, mup_off q1, mup_off q2]; exact g3 q q1 q2) (fun j hj => by rw [e1, mup_ne (by omega), mup_off (by decide)]; exact g4 j hj) (by rw [nx, e1, mup_at rfl rfl]) (by rw [nx, e1, mup_off (by decide), mup_row, g6, ← hV, ← hR]; rfl)
        refine ⟨σ', head _ ?_, t2⟩
        rw [w]
        refine e_f (by decide) (e_mob (zo_1 (by omega)) (e_mob (zo_0 (by omega)) (e_let (e_let (e_mob (z_fmod (by rw [g5]; omega) (by decide)) ?_)))))
        rw [c1, c0, g3 20 (by decide) (by decide), h4, show step + 1 - 1 = step by omega, pk_of ⟨by omega, by omega, by omega, by omega⟩, ← hV, g5, ← hR, mwN (i := R) (by omega)]
        refine e_t (mwR (by omega) (by decide)) (e_mem (e_mem ?_))
        unfold g_X3_keepStep_b91
        rw [mup_off (o := 76) (q := 54) (by decide), g5, ← e1, ← t1, show ((k + 1 : Nat) : Int) = (k : Int) + 1 by omega]
  exact key n 0 F σ (by omega) (by omega) (fun _ _ _ => rfl) (fun _ _ => rfl) rfl rfl
