/-! LAYER 2: a box moves, in plain words; the class does so -/
theorem zo_0 {F o k : Nat} {σ : mMem} (h : k < 6) : g_X10_of F o (k : Int) 0 σ = some (σ (o + 1) (10 * k + 0), σ) := by
  rw [z_of (by omega), show ((k : Int) * 10 + 0).toNat = 10 * k + 0 by omega]
theorem zs_0 {F o k : Nat} {σ : mMem} {v : Int} (h : k < 6) : g_X10_set F o (k : Int) 0 v σ = some (0, mup σ (o + 1) (10 * k + 0) v) := by
  rw [z_set (by omega), show ((k : Int) * 10 + 0).toNat = 10 * k + 0 by omega]
theorem zo_1 {F o k : Nat} {σ : mMem} (h : k < 6) : g_X10_of F o (k : Int) 1 σ = some (σ (o + 1) (10 * k + 1), σ) := by
  rw [z_of (by omega), show ((k : Int) * 10 + 1).toNat = 10 * k + 1 by omega]
theorem zs_1 {F o k : Nat} {σ : mMem} {v : Int} (h : k < 6) : g_X10_set F o (k : Int) 1 v σ = some (0, mup σ (o + 1) (10 * k + 1) v) := by
  rw [z_set (by omega), show ((k : Int) * 10 + 1).toNat = 10 * k + 1 by omega]
theorem zo_2 {F o k : Nat} {σ : mMem} (h : k < 6) : g_X10_of F o (k : Int) 2 σ = some (σ (o + 1) (10 * k + 2), σ) := by
  rw [z_of (by omega), show ((k : Int) * 10 + 2).toNat = 10 * k + 2 by omega]
theorem zs_2 {F o k : Nat} {σ : mMem} {v : Int} (h : k < 6) : g_X10_set F o (k : Int) 2 v σ = some (0, mup σ (o + 1) (10 * k + 2) v) := by
  rw [z_set (by omega), show ((k : Int) * 10 + 2).toNat = 10 * k + 2 by omega]
theorem zo_3 {F o k : Nat} {σ : mMem} (h : k < 6) : g_X10_of F o (k : Int) 3 σ = some (σ (o + 1) (10 * k + 3), σ) := by
  rw [z_of (by omega), show ((k : Int) * 10 + 3).toNat = 10 * k + 3 by omega]
theorem zs_3 {F o k : Nat} {σ : mMem} {v : Int} (h : k < 6) : g_X10_set F o (k : Int) 3 v σ = some (0, mup σ (o + 1) (10 * k + 3) v) := by
  rw [z_set (by omega), show ((k : Int) * 10 + 3).toNat = 10 * k + 3 by omega]
theorem zo_4 {F o k : Nat} {σ : mMem} (h : k < 6) : g_X10_of F o (k : Int) 4 σ = some (σ (o + 1) (10 * k + 4), σ) := by
  rw [z_of (by omega), show ((k : Int) * 10 + 4).toNat = 10 * k + 4 by omega]
theorem zs_4 {F o k : Nat} {σ : mMem} {v : Int} (h : k < 6) : g_X10_set F o (k : Int) 4 v σ = some (0, mup σ (o + 1) (10 * k + 4) v) := by
  rw [z_set (by omega), show ((k : Int) * 10 + 4).toNat = 10 * k + 4 by omega]
theorem zo_5 {F o k : Nat} {σ : mMem} (h : k < 6) : g_X10_of F o (k : Int) 5 σ = some (σ (o + 1) (10 * k + 5), σ) := by
  rw [z_of (by omega), show ((k : Int) * 10 + 5).toNat = 10 * k + 5 by omega]
theorem zs_5 {F o k : Nat} {σ : mMem} {v : Int} (h : k < 6) : g_X10_set F o (k : Int) 5 v σ = some (0, mup σ (o + 1) (10 * k + 5) v) := by
  rw [z_set (by omega), show ((k : Int) * 10 + 5).toNat = 10 * k + 5 by omega]
theorem zo_6 {F o k : Nat} {σ : mMem} (h : k < 6) : g_X10_of F o (k : Int) 6 σ = some (σ (o + 1) (10 * k + 6), σ) := by
  rw [z_of (by omega), show ((k : Int) * 10 + 6).toNat = 10 * k + 6 by omega]
theorem zs_6 {F o k : Nat} {σ : mMem} {v : Int} (h : k < 6) : g_X10_set F o (k : Int) 6 v σ = some (0, mup σ (o + 1) (10 * k + 6) v) := by
  rw [z_set (by omega), show ((k : Int) * 10 + 6).toNat = 10 * k + 6 by omega]
theorem zo_7 {F o k : Nat} {σ : mMem} (h : k < 6) : g_X10_of F o (k : Int) 7 σ = some (σ (o + 1) (10 * k + 7), σ) := by
  rw [z_of (by omega), show ((k : Int) * 10 + 7).toNat = 10 * k + 7 by omega]
theorem zs_7 {F o k : Nat} {σ : mMem} {v : Int} (h : k < 6) : g_X10_set F o (k : Int) 7 v σ = some (0, mup σ (o + 1) (10 * k + 7) v) := by
  rw [z_set (by omega), show ((k : Int) * 10 + 7).toNat = 10 * k + 7 by omega]
theorem zo_8 {F o k : Nat} {σ : mMem} (h : k < 6) : g_X10_of F o (k : Int) 8 σ = some (σ (o + 1) (10 * k + 8), σ) := by
  rw [z_of (by omega), show ((k : Int) * 10 + 8).toNat = 10 * k + 8 by omega]
theorem zs_8 {F o k : Nat} {σ : mMem} {v : Int} (h : k < 6) : g_X10_set F o (k : Int) 8 v σ = some (0, mup σ (o + 1) (10 * k + 8) v) := by
  rw [z_set (by omega), show ((k : Int) * 10 + 8).toNat = 10 * k + 8 by omega]
theorem zo_9 {F o k : Nat} {σ : mMem} (h : k < 6) : g_X10_of F o (k : Int) 9 σ = some (σ (o + 1) (10 * k + 9), σ) := by
  rw [z_of (by omega), show ((k : Int) * 10 + 9).toNat = 10 * k + 9 by omega]
theorem zs_9 {F o k : Nat} {σ : mMem} {v : Int} (h : k < 6) : g_X10_set F o (k : Int) 9 v σ = some (0, mup σ (o + 1) (10 * k + 9) v) := by
  rw [z_set (by omega), show ((k : Int) * 10 + 9).toNat = 10 * k + 9 by omega]
theorem zt_1 {F o k : Nat} {σ : mMem} {q : Int} (h : k < 6) : g_X10_turnBy F o (k : Int) q σ = some (0, mup σ (o + 1) (10 * k + 2) (mand (σ (o + 1) (10 * k + 2) + q) 3)) := by
  rw [z_turnBy (by omega), show ((k : Int) * 10 + 2).toNat = 10 * k + 2 by omega]
/-- which of the first n boxes stands on a cell; -1 -/
def xWho (A : Nat → Nat → Int) (c r : Int) : Nat → Int
  | 0 => -1
  | k + 1 => if xWho A c r k ≠ -1 then xWho A c r k else if A k 0 = c ∧ A k 1 = r then (k : Int) else -1
theorem xWho_rng {A : Nat → Nat → Int} {c r : Int} : ∀ n : Nat, -1 ≤ xWho A c r n ∧ xWho A c r n < n
  | 0 => by unfold xWho; omega
  | k + 1 => by
    have ih := xWho_rng (A := A) (c := c) (r := r) k
    unfold xWho
    split
    · omega
    · split <;> omega
theorem xWho_hit {A : Nat → Nat → Int} {c r : Int} {k : Nat} (h0 : xWho A c r k = -1) (hm : A k 0 = c ∧ A k 1 = r) : ∀ d : Nat, xWho A c r (k + 1 + d) = k
  | 0 => by
    show xWho A c r (k + 1) = k
    unfold xWho
    rw [if_neg (by omega), if_pos hm]
  | d + 1 => by
    have ih := xWho_hit h0 hm d
    show xWho A c r (k + 1 + d + 1) = k
    unfold xWho
    rw [ih, if_pos (by omega)]
theorem xWho_miss {A : Nat → Nat → Int} {c r : Int} {k : Nat} (h0 : xWho A c r k = -1) (hm : ¬ (A k 0 = c ∧ A k 1 = r)) : xWho A c r (k + 1) = -1 := by
  unfold xWho
  rw [if_neg (by omega), if_neg hm]
theorem xWho_congr {A A' : Nat → Nat → Int} {c r : Int} : ∀ {n : Nat}, (∀ k, k < n → A k 0 = A' k 0 ∧ A k 1 = A' k 1) → xWho A c r n = xWho A' c r n
  | 0, _ => rfl
  | n + 1, h => by
    have ih := xWho_congr (A := A) (A' := A') (c := c) (r := r) (n := n) (fun k hk => h k (by omega))
    have h1 := h n (by omega)
    unfold xWho
    rw [ih, h1.1, h1.2]
/-- the fields of box k in a row of boxes -/
abbrev cB (σ : mMem) (a : Nat) (k f : Nat) : Int := σ a (10 * k + f)
theorem z_boxIn {F a L : Nat} {σ : mMem} {n : Nat} {c r : Int} (hL : L = 60) (hn : n ≤ 6) (hF : 10 ≤ F) (hc : sml c) (hr : sml r) (hv : ∀ k, k < n → sml (cB σ a k 0) ∧ sml (cB σ a k 1)) : g_X10_boxIn F a L (n : Int) c r σ = some (xWho (cB σ a) c r n, σ) := by
  have key : ∀ (d k fuel : Nat), d + k = n → d < fuel → xWho (cB σ a) c r k = -1 → g_X10_boxIn_h3 F a L fuel (n : Int) c r (k : Int) σ = some (xWho (cB σ a) c r n, σ) := by
    intro d
    induction d with
    | zero =>
      intro k fuel h1 h2 h3
      obtain ⟨f, rfl⟩ : ∃ f, fuel = f + 1 := ⟨fuel - 1, by omega⟩
      have hkn : k = n := by omega
      subst hkn
      unfold g_X10_boxIn_h3
      refine e_t (by (try simp (disch := omega) only [mw_id, mwl_id, mw_mb, mb_0, mb_1]) <;> omega) ?_
      unfold g_X10_boxIn_b61
      rw [h3]
    | succ d ih =>
      intro k fuel h1 h2 h3
      obtain ⟨f, rfl⟩ : ∃ f, fuel = f + 1 := ⟨fuel - 1, by omega⟩
      have hk := hv k (by omega)
      dsimp only [cB] at hk
      have i0 : (mw ((k : Int) * 10 + 0)).toNat = 10 * k + 0 := by rw [mw_id (by omega) (by omega)]; omega
      have i1 : (mw ((k : Int) * 10 + 1)).toNat = 10 * k + 1 := by rw [mw_id (by omega) (by omega)]; omega
      unfold g_X10_boxIn_h3
      refine e_f (by (try simp (disch := omega) only [mw_id, mwl_id, mw_mb, mb_0, mb_1]) <;> omega) ?_
      refine e_f (by (try simp (disch := omega) only [mw_id, mwl_id, mw_mb, mb_0, mb_1]) <;> omega) ?_
      refine e_let ?_
      refine e_f (by (try simp (disch := omega) only [mw_id, mwl_id, mw_mb, mb_0, mb_1]) <;> omega) ?_
      refine e_t (by (try simp (disch := omega) only [mw_id, mwl_id, mw_mb, mb_0, mb_1]) <;> omega) ?_
      rw [i0]
      by_cases m0 : σ a (10 * k + 0) = c
      · refine e_f (by rw [m0]; exact fun q => q rfl) ?_
        refine e_t (by (try simp (disch := omega) only [mw_id, mwl_id, mw_mb, mb_0, mb_1]) <;> omega) ?_
        rw [i1]
        by_cases m1 : σ a (10 * k + 1) = r
        · refine e_f (by rw [m1]; exact fun q => q rfl) ?_
          have e := xWho_hit h3 ⟨m0, m1⟩ d
          rw [show k + 1 + d = n by omega] at e
          rw [e]
        · refine e_t (by rw [mw_id (by omega) (by omega), mw_id (by omega) (by omega)]; exact m1) ?_
          unfold g_X10_boxIn_b55
          exact ih (k + 1) f (by omega) (by omega) (xWho_miss h3 (fun q => m1 q.2))
      · refine e_t (by rw [mw_id (by omega) (by omega), mw_id (by omega) (by omega)]; exact m0) ?_
        unfold g_X10_boxIn_b55
        exact ih (k + 1) f (by omega) (by omega) (xWho_miss h3 (fun q => m0 q.1))
  exact key n 0 F (by omega) (by omega) rfl
/-- what a plan of the class may hold -/
def knOK (code : Nat → Int) (m : Int) (n i : Nat) : Prop := ∀ j, i ≤ j → j < i + n → code j % 16 = 1 → code j / 16 < m
def FmC (code : Nat → Int) (a b m : Int) : Prop := b ≤ a ∨ (0 ≤ a ∧ a < b ∧ b ≤ 1600 ∧ (∃ c, okR code (b - a).toNat a.toNat [] = some [c]) ∧ knOK code m (b - a).toNat a.toNat)
def PlC (σ : mMem) (p : Nat) : Prop := (0 ≤ σ p 9 ∧ σ p 9 ≤ 9) ∧ (0 ≤ σ p 10 ∧ σ p 10 ≤ 9) ∧ (0 ≤ σ p 11 ∧ σ p 11 ≤ 6) ∧ (∀ j, j < 81 → 0 ≤ σ (p + 1) j ∧ σ (p + 1) j ≤ 9) ∧ (sml (σ p 5) ∧ sml (σ p 6) ∧ sml (σ p 7) ∧ sml (σ p 8)) ∧ FmC (σ (p + 4)) (σ p 5) (σ p 6) 5 ∧ FmC (σ (p + 4)) (σ p 7) (σ p 8) 7
def BR (C R : Int) (B : Nat → Int) : Prop := (0 ≤ B 0 ∧ B 0 < C ∧ 0 ≤ B 1 ∧ B 1 < R) ∧ (0 ≤ B 2 ∧ B 2 ≤ 3) ∧ (0 ≤ B 3 ∧ B 3 ≤ 999) ∧ (0 ≤ B 4 ∧ B 4 ≤ 99) ∧ (0 ≤ B 5 ∧ B 5 ≤ 2) ∧ (0 ≤ B 6 ∧ B 6 ≤ 3) ∧ (0 ≤ B 7 ∧ B 7 ≤ 9) ∧ (0 ≤ B 8 ∧ B 8 ≤ 2519)
theorem sSeen_rng {C R : Int} {g : Nat → Int} {lamp c r w far aside : Int} (hg : ∀ j, j < 81 → 0 ≤ g j ∧ g j ≤ 9) (hC : C ≤ 9) (hR : R ≤ 9) (hl : 0 ≤ lamp ∧ lamp ≤ 9) : 0 ≤ sSeen C R g lamp c r w far aside ∧ sSeen C R g lamp c r w far aside ≤ 9 := by
  have h : ∀ a b : Int, 0 ≤ sGrey C R g a b ∧ sGrey C R g a b ≤ 9 := by
    intro a b
    unfold sGrey
    split
    · rename_i hh
      exact hg _ (by omega)
    · omega
  unfold sSeen
  have h1 := h (c + far * sdc w + aside * sdc ((w + 1) % 4)) (r + far * sdr w + aside * sdr ((w + 1) % 4))
  omega
theorem mul_rng {a b M : Int} (ha : 0 ≤ a ∧ a ≤ M) (hb : -1 ≤ b ∧ b ≤ 1) : -M ≤ a * b ∧ a * b ≤ M := by
  rcases (by omega : b = -1 ∨ b = 0 ∨ b = 1) with rfl | rfl | rfl <;> omega
theorem mul_rng2 {a b M : Int} (ha : -M ≤ a ∧ a ≤ M) (hb : -1 ≤ b ∧ b ≤ 1) : -M ≤ a * b ∧ a * b ≤ M := by
  rcases (by omega : b = -1 ∨ b = 0 ∨ b = 1) with rfl | rfl | rfl <;> omega
theorem z_greyAt {F p : Nat} {σ : mMem} {c r : Int} (hc : sml c) (hr : sml r) (h1 : 0 ≤ σ p 9 ∧ σ p 9 ≤ 9) (h2 : 0 ≤ σ p 10 ∧ σ p 10 ≤ 9) (hc2 : -100 ≤ c ∧ c ≤ 100) (hr2 : -100 ≤ r ∧ r ≤ 100) : g_X5_greyAt F p c r σ = some (sGrey (σ p 9) (σ p 10) (σ (p + 1)) c r, σ) := by
  unfold g_X5_greyAt
  refine e_let (e_mob (z_hasCell hc hr (by omega) (by omega)) ?_)
  unfold sGrey g_X5_greyAt_b35 g_X5_greyAt_b34 g_X5_greyAt_b35
  by_cases hh : sOn (σ p 9) (σ p 10) c r
  · rw [if_pos hh, mb_t hh]
    refine e_f (by (try simp (disch := omega) only [mw_id, mwl_id, mw_mb, mb_0, mb_1]) <;> omega) ?_
    refine e_f (by (try simp (disch := omega) only [mw_id, mwl_id, mw_mb, mb_0, mb_1]) <;> omega) ?_
    refine e_t (by (try simp (disch := omega) only [mw_id, mwl_id, mw_mb, mb_0, mb_1]) <;> omega) ?_
    rw [mw_id (by omega) (by omega)]
  · rw [if_neg hh, mb_f hh]
    refine e_t (by (try simp (disch := omega) only [mw_id, mwl_id, mw_mb, mb_0, mb_1]) <;> omega) ?_
    rfl
def xEye (π : mMem) (p : Nat) (lamp : Int) (B : Nat → Int) (side : Int) : Int := sSeen (π p 9) (π p 10) (π (p + 1)) lamp (B 0) (B 1) (B 2) (B 6) (side * B 5)
theorem z_greySeen {F o k : Nat} {σ : mMem} {p : Nat} {side : Int} (hk : k < 6) (hp : σ o 3 = 3 ∨ σ o 3 = 8) (hp2 : (σ o 3).toNat = p) (hP : PlC σ p) (hB : BR (σ p 9) (σ p 10) (cB σ (o + 1) k)) (hl : 0 ≤ σ o 5 ∧ σ o 5 ≤ 9) (hs : -1 ≤ side ∧ side ≤ 1) :
    g_X10_greySeen F o (k : Int) side σ = some (xEye σ p (σ o 5) (cB σ (o + 1) k) side, σ) := by
  obtain ⟨p1, p2, p3, p4, -⟩ := hP
  obtain ⟨b0, b2, b3, b4, b5, b6, b7, b8⟩ := hB
  dsimp only [cB] at b0 b2 b3 b4 b5 b6 b7 b8
  have e2 : mand (σ (o + 1) (10 * k + 2) + 1) 3 = (σ (o + 1) (10 * k + 2) + 1) % 4 := mand3 (by omega) (by omega)
  have d1 := sdc_rng (σ (o + 1) (10 * k + 2))
  have d2 := sdc_rng ((σ (o + 1) (10 * k + 2) + 1) % 4)
  have d3 := sdr_rng (σ (o + 1) (10 * k + 2))
  have d4 := sdr_rng ((σ (o + 1) (10 * k + 2) + 1) % 4)
  have q0 : -2 ≤ σ (o + 1) (10 * k + 5) * side ∧ σ (o + 1) (10 * k + 5) * side ≤ 2 := mul_rng b5 hs
  have q0b : -2 ≤ side * σ (o + 1) (10 * k + 5) ∧ side * σ (o + 1) (10 * k + 5) ≤ 2 := by rw [Int.mul_comm]; exact q0
  have q1 := mul_rng b6 d1
  have q2 := mul_rng2 (M := 2) q0b d2
  have q3 := mul_rng b6 d3
  have q4 := mul_rng2 (M := 2) q0b d4
  have g1 := sSeen_rng (c := cB σ (o + 1) k 0) (r := cB σ (o + 1) k 1) (w := cB σ (o + 1) k 2) (far := cB σ (o + 1) k 6) (aside := side * cB σ (o + 1) k 5) p4 p1.2 p2.2 hl
  unfold g_X10_greySeen
  refine e_mob (zo_2 hk) ?_
  refine e_le _ e2 ?_
  refine e_mob (zo_6 hk) ?_
  refine e_mob (zo_5 hk) ?_
  refine e_let ?_
  refine e_mob (zo_0 hk) ?_
  refine e_mob (z_colStep b2) ?_
  refine e_mob (z_colStep (by omega)) ?_
  refine e_let ?_
  refine e_mob (zo_1 hk) ?_
  refine e_mob (z_rowStep b2) ?_
  refine e_mob (z_rowStep (by omega)) ?_
  refine e_let ?_
  refine e_t hp ?_
  rw [hp2]
  have hcc : -100 ≤ σ (o + 1) (10 * k + 0) + σ (o + 1) (10 * k + 6) * sdc (σ (o + 1) (10 * k + 2)) + side * σ (o + 1) (10 * k + 5) * sdc ((σ (o + 1) (10 * k + 2) + 1) % 4) ∧ σ (o + 1) (10 * k + 0) + σ (o + 1) (10 * k + 6) * sdc (σ (o + 1) (10 * k + 2)) + side * σ (o + 1) (10 * k + 5) * sdc ((σ (o + 1) (10 * k + 2) + 1) % 4) ≤ 100 := by
    have := b0
    omega
  have hrr : -100 ≤ σ (o + 1) (10 * k + 1) + σ (o + 1) (10 * k + 6) * sdr (σ (o + 1) (10 * k + 2)) + side * σ (o + 1) (10 * k + 5) * sdr ((σ (o + 1) (10 * k + 2) + 1) % 4) ∧ σ (o + 1) (10 * k + 1) + σ (o + 1) (10 * k + 6) * sdr (σ (o + 1) (10 * k + 2)) + side * σ (o + 1) (10 * k + 5) * sdr ((σ (o + 1) (10 * k + 2) + 1) % 4) ≤ 100 := by
    have := b0
    omega
  refine e_mob (z_greyAt (by omega) (by omega) p1 p2 hcc hrr) ?_
  have hg9 : 0 ≤ sGrey (σ p 9) (σ p 10) (σ (p + 1)) (σ (o + 1) (10 * k + 0) + σ (o + 1) (10 * k + 6) * sdc (σ (o + 1) (10 * k + 2)) + side * σ (o + 1) (10 * k + 5) * sdc ((σ (o + 1) (10 * k + 2) + 1) % 4)) (σ (o + 1) (10 * k + 1) + σ (o + 1) (10 * k + 6) * sdr (σ (o + 1) (10 * k + 2)) + side * σ (o + 1) (10 * k + 5) * sdr ((σ (o + 1) (10 * k + 2) + 1) % 4)) ∧ sGrey (σ p 9) (σ p 10) (σ (p + 1)) (σ (o + 1) (10 * k + 0) + σ (o + 1) (10 * k + 6) * sdc (σ (o + 1) (10 * k + 2)) + side * σ (o + 1) (10 * k + 5) * sdc ((σ (o + 1) (10 * k + 2) + 1) % 4)) (σ (o + 1) (10 * k + 1) + σ (o + 1) (10 * k + 6) * sdr (σ (o + 1) (10 * k + 2)) + side * σ (o + 1) (10 * k + 5) * sdr ((σ (o + 1) (10 * k + 2) + 1) % 4)) ≤ 9 := by
    unfold sGrey
    split
    · exact p4 _ (by omega)
    · omega
  refine e_mob (z_max (by omega)) ?_
  rfl
