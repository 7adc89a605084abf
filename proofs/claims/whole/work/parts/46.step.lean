/-! LAYER 2: a box moves: the words, and the class -/
theorem sSt_congr {kn kn' : Nat → Int} {c : Int} {st : List Int} (h : c % 16 = 1 → kn (c / 16).toNat = kn' (c / 16).toNat) : sSt kn c st = sSt kn' c st := by
  unfold sSt
  by_cases e : c % 16 = 1
  · simp only [e, h e]
  · simp only [e, if_false]
theorem sRun_congr {code kn kn' : Nat → Int} {m : Int} : ∀ {n i : Nat} {st : List Int}, knOK code m n i → (∀ j, j < n → 0 ≤ code (i + j)) → (∀ j : Nat, (j : Int) < m → kn j = kn' j) → sRun code kn n i st = sRun code kn' n i st
  | 0, _, _, _, _, _ => rfl
  | n + 1, i, st, h, h0, hk => by
    unfold sRun
    have hc0 := h0 0 (by omega)
    rw [Nat.add_zero] at hc0
    rw [sSt_congr (kn := kn) (kn' := kn') (fun e => by
      have h1 := h i (Nat.le_refl i) (by omega) e
      exact hk _ (by omega))]
    exact sRun_congr (fun j h1 h2 h3 => h j (by omega) (by omega) h3) (fun j hj => by have := h0 (j + 1) (by omega); rwa [show i + (j + 1) = i + 1 + j by omega] at this) hk
theorem okS_0 {bs bs' : List Bool} {c : Int} (h : okS bs c = some bs') : 0 ≤ c := by
  unfold okS at h
  split at h
  · cases h
  · omega
theorem okR_0 {code : Nat → Int} : ∀ {n i : Nat} {bs bs' : List Bool}, okR code n i bs = some bs' → ∀ j, j < n → 0 ≤ code (i + j)
  | 0, _, _, _, _, j, hj => absurd hj (Nat.not_lt_zero j)
  | n + 1, i, bs, bs', h, j, hj => by
    unfold okR at h
    cases h1 : okS bs (code i) with
    | none => rw [h1] at h; cases h
    | some b1 =>
      rw [h1] at h
      match j with
      | 0 => exact okS_0 h1
      | j + 1 =>
        have := okR_0 h j (by omega)
        rwa [show i + 1 + j = i + (j + 1) by omega] at this
def xLost (π : mMem) (p : Nat) (lamp : Int) (B : Nat → Int) : Int := if 5 ≤ xEye π p lamp B (-1) ∨ 5 ≤ xEye π p lamp B 1 ∨ 5 ≤ xEye π p lamp B 0 then 0 else min 99 (B 4 + 1)
def xKn (π : mMem) (p : Nat) (lamp step : Int) (B : Nat → Int) (t : Int) : Nat → Int := fun j => if j = 0 then xEye π p lamp B (-1) else if j = 1 then xEye π p lamp B 1 else if j = 2 then xEye π p lamp B 0 else if j = 3 then xLost π p lamp B else if j = 4 then step else if j = 5 then t else B 3
def xBy (π : mMem) (p : Nat) (lamp step : Int) (B : Nat → Int) : Int := if π p 5 < π p 6 then (sRun (π (p + 4)) (xKn π p lamp step B 0) (π p 6 - π p 5).toNat (π p 5).toNat []).headD 0 else xEye π p lamp B 1 - xEye π p lamp B (-1)
def xWay (B : Nat → Int) (z : Int) : Int := if 0 < z then (B 2 + 1) % 4 else if z < 0 then (B 2 + 3) % 4 else B 2
def xGoV (π : mMem) (p : Nat) (lamp step : Int) (B : Nat → Int) : Int := if π p 7 < π p 8 then (sRun (π (p + 4)) (xKn π p lamp step B (mb (xBy π p lamp step B ≠ 0))) (π p 8 - π p 7).toNat (π p 7).toNat []).headD 0 else 1
def xC (π : mMem) (p : Nat) (lamp step : Int) (B : Nat → Int) : Int := B 0 + sdc (xWay B (xBy π p lamp step B))
def xR (π : mMem) (p : Nat) (lamp step : Int) (B : Nat → Int) : Int := B 1 + sdr (xWay B (xBy π p lamp step B))
abbrev xFree (π : mMem) (p : Nat) (A : Nat → Nat → Int) (c r : Int) : Prop := sOn (π p 9) (π p 10) c r ∧ xWho A c r (π p 11).toNat = -1
abbrev xWent (π : mMem) (p : Nat) (lamp step : Int) (A : Nat → Nat → Int) (B : Nat → Int) : Prop := xGoV π p lamp step B ≠ 0 ∧ xFree π p A (xC π p lamp step B) (xR π p lamp step B)
abbrev xBlk (π : mMem) (p : Nat) (lamp step : Int) (A : Nat → Nat → Int) (B : Nat → Int) : Prop := xGoV π p lamp step B ≠ 0 ∧ ¬ xFree π p A (xC π p lamp step B) (xR π p lamp step B)
/-- the fields of a box behind its move -/
def xNew (π : mMem) (p : Nat) (lamp step : Int) (A : Nat → Nat → Int) (B : Nat → Int) : Nat → Int := fun f =>
  if f = 0 then (if xWent π p lamp step A B then xC π p lamp step B else B 0)
  else if f = 1 then (if xWent π p lamp step A B then xR π p lamp step B else B 1)
  else if f = 2 then (if xWent π p lamp step A B ∧ 0 < B 7 ∧ (B 8 + 1) % 2520 % B 7 = 0 then (xWay B (xBy π p lamp step B) + 1) % 4 else xWay B (xBy π p lamp step B))
  else if f = 3 then B 3 - 1
  else if f = 4 then xLost π p lamp B
  else if f = 8 then (if xWent π p lamp step A B then (B 8 + 1) % 2520 else B 8)
  else B f
theorem xEye_rng {π : mMem} {p : Nat} {lamp : Int} {B : Nat → Int} {side : Int} (hP : PlC π p) (hl : 0 ≤ lamp ∧ lamp ≤ 9) : 0 ≤ xEye π p lamp B side ∧ xEye π p lamp B side ≤ 9 := sSeen_rng hP.2.2.2.1 hP.1.2 hP.2.1.2 hl
theorem xLost_rng {π : mMem} {p : Nat} {lamp : Int} {B : Nat → Int} (h : 0 ≤ B 4 ∧ B 4 ≤ 99) : 0 ≤ xLost π p lamp B ∧ xLost π p lamp B ≤ 99 := by
  unfold xLost
  split <;> omega
theorem xWay_rng {B : Nat → Int} {z : Int} (h : 0 ≤ B 2 ∧ B 2 ≤ 3) : 0 ≤ xWay B z ∧ xWay B z ≤ 3 := by
  unfold xWay
  split
  · omega
  · split <;> omega
theorem run_v {code kn : Nat → Int} {n i : Nat} {b : Bool} (h : okR code n i [] = some [b]) : sV ((sRun code kn n i []).headD 0) := by
  have ht := okR_ty (kn := kn) (st := []) (bs := []) trivial h
  match hs : sRun code kn n i [], ht with
  | [a], ht => exact ht.1
theorem xBy_v {π : mMem} {p : Nat} {lamp step : Int} {B : Nat → Int} (hP : PlC π p) (hl : 0 ≤ lamp ∧ lamp ≤ 9) : sV (xBy π p lamp step B) := by
  have e1 := xEye_rng (B := B) (side := 1) hP hl
  have e2 := xEye_rng (B := B) (side := -1) hP hl
  unfold xBy
  split
  · rename_i h
    rcases hP.2.2.2.2.2.1 with q | ⟨q1, q2, q3, ⟨c, q4⟩, q5⟩
    · omega
    · exact run_v q4
  · omega
theorem xGoV_v {π : mMem} {p : Nat} {lamp step : Int} {B : Nat → Int} (hP : PlC π p) : sV (xGoV π p lamp step B) := by
  unfold xGoV
  split
  · rename_i h
    rcases hP.2.2.2.2.2.2 with q | ⟨q1, q2, q3, ⟨c, q4⟩, q5⟩
    · omega
    · exact run_v q4
  · omega
theorem xKn_v {π : mMem} {p : Nat} {lamp step : Int} {B : Nat → Int} {t : Int} (hP : PlC π p) (hl : 0 ≤ lamp ∧ lamp ≤ 9) (hst : 0 ≤ step ∧ step ≤ 1000) (hB : 0 ≤ B 4 ∧ B 4 ≤ 99) (hB3 : 0 ≤ B 3 ∧ B 3 ≤ 999) (ht : sV t) : ∀ j, j < 7 → sV (xKn π p lamp step B t j) := by
  intro j hj
  have e1 := xEye_rng (B := B) (side := 1) hP hl
  have e2 := xEye_rng (B := B) (side := -1) hP hl
  have e3 := xEye_rng (B := B) (side := 0) hP hl
  have e4 := xLost_rng (π := π) (p := p) (lamp := lamp) hB
  unfold xKn
  repeat' split
  all_goals omega
/-- the class's value of a formula, and that nothing but the machine's row of waiting values changes -/
theorem z_val {F o p : Nat} {σ : mMem} {a b m : Int} {kn : Nat → Int} (ho : 20 ≤ o) (hp : p ≤ 8) (hF : 2000 ≤ F) (hfm : FmC (σ (p + 4)) a b m) (hab : a < b) (hk : ∀ j : Nat, (j : Int) < m → σ (o + 4) j = kn j) (hkv : ∀ j : Nat, (j : Int) < m → sV (kn j)) :
    ∃ σ', g_X2_valueOf F (o + 3) p a b σ = some ((sRun (σ (p + 4)) kn (b - a).toNat a.toNat []).headD 0, σ') ∧ ∀ q, q ≠ o + 5 → σ' q = σ q := by
  rcases hfm with q | ⟨q1, q2, q3, ⟨c, q4⟩, q5⟩
  · omega
  · obtain ⟨σ', h⟩ := z_valueOf (F := F) (q := o + 3) (p := p) (σ := σ) (a := a) (b := b) (n := (b - a).toNat) (kn := kn) (by omega) hF q1 (by omega) q3 q4 q5 hk hkv
    refine ⟨σ', h, fun q hq => ?_⟩
    funext j
    exact f_X2_valueOf h q j (by unfold T_X2_valueOf; omega)
theorem mtm {a b : Int} (ha : 0 ≤ a ∧ a ≤ 1000000) (hb : 0 < b ∧ b ≤ 1000000) : mw ((mw a).tmod (mw b)) = a % b := by
  rw [mw_id (z := a) (by omega) (by omega), mw_id (z := b) (by omega) (by omega), mtmod (by omega)]
  have h1 := Int.emod_nonneg a (b := b) (by omega)
  have h2 := Int.emod_lt_of_pos a hb.1
  exact mw_id (by omega) (by omega)
theorem z_hasSteers {F p : Nat} {σ : mMem} (h : sml (σ p 5) ∧ sml (σ p 6)) : g_X5_hasSteers F p σ = some (mb (σ p 5 < σ p 6), σ) := by
  unfold g_X5_hasSteers
  by_cases c : σ p 5 < σ p 6
  · rw [mb_t c]
    refine e_f (by (try simp (disch := omega) only [mw_id, mwl_id, mw_mb, mb_0, mb_1]) <;> omega) ?_
    rfl
  · rw [mb_f c]
    refine e_t (by (try simp (disch := omega) only [mw_id, mwl_id, mw_mb, mb_0, mb_1]) <;> omega) ?_
    rfl
theorem z_hasGoes {F p : Nat} {σ : mMem} (h : sml (σ p 7) ∧ sml (σ p 8)) : g_X5_hasGoes F p σ = some (mb (σ p 7 < σ p 8), σ) := by
  unfold g_X5_hasGoes
  by_cases c : σ p 7 < σ p 8
  · rw [mb_t c]
    refine e_f (by (try simp (disch := omega) only [mw_id, mwl_id, mw_mb, mb_0, mb_1]) <;> omega) ?_
    rfl
  · rw [mb_f c]
    refine e_t (by (try simp (disch := omega) only [mw_id, mwl_id, mw_mb, mb_0, mb_1]) <;> omega) ?_
    rfl
/-- going ahead -/
theorem z_goAhead {F o k : Nat} {σ : mMem} {p n : Nat} (hk : k < 6) (hF : 2000 ≤ F) (hp : σ o 3 = 3 ∨ σ o 3 = 8) (hp2 : (σ o 3).toNat = p) (h9 : 0 ≤ σ p 9 ∧ σ p 9 ≤ 9) (h10 : 0 ≤ σ p 10 ∧ σ p 10 ≤ 9) (h11 : σ p 11 = (n : Int)) (hn : n ≤ 6) (hA : ∀ j, j < n → sml (cB σ (o + 1) j 0) ∧ sml (cB σ (o + 1) j 1))
    (b0 : 0 ≤ cB σ (o + 1) k 0 ∧ cB σ (o + 1) k 0 ≤ 9) (b1 : 0 ≤ cB σ (o + 1) k 1 ∧ cB σ (o + 1) k 1 ≤ 9) (b2 : 0 ≤ cB σ (o + 1) k 2 ∧ cB σ (o + 1) k 2 ≤ 3) (b7 : 0 ≤ cB σ (o + 1) k 7 ∧ cB σ (o + 1) k 7 ≤ 9) (b8 : 0 ≤ cB σ (o + 1) k 8 ∧ cB σ (o + 1) k 8 ≤ 2519) (c r : Int) (hc : c = cB σ (o + 1) k 0 + sdc (cB σ (o + 1) k 2)) (hr : r = cB σ (o + 1) k 1 + sdr (cB σ (o + 1) k 2)) :
    (¬ (sOn (σ p 9) (σ p 10) c r ∧ xWho (cB σ (o + 1)) c r n = -1) → g_X10_goAhead F o (k : Int) σ = some (0, mup (mup σ (o + 1) (10 * k + 9) (σ (o + 1) (10 * k + 9) + 1)) o 7 (σ o 7 + 1))) ∧
    ((sOn (σ p 9) (σ p 10) c r ∧ xWho (cB σ (o + 1)) c r n = -1) → ∃ σ', g_X10_goAhead F o (k : Int) σ = some (0, σ') ∧ (∀ q, q ≠ o → q ≠ o + 1 → q ≠ o + 2 → σ' q = σ q) ∧ σ' o = mup1 (σ o) 6 (σ o 6 + 1) ∧ σ' (o + 2) = mup1 (σ (o + 2)) k 1 ∧
      σ' (o + 1) = mup1 (mup1 (mup1 (mup1 (σ (o + 1)) (10 * k + 0) c) (10 * k + 1) r) (10 * k + 8) ((cB σ (o + 1) k 8 + 1) % 2520)) (10 * k + 2) (if 0 < cB σ (o + 1) k 7 ∧ (cB σ (o + 1) k 8 + 1) % 2520 % cB σ (o + 1) k 7 = 0 then (cB σ (o + 1) k 2 + 1) % 4 else cB σ (o + 1) k 2)) := by
  have d1 := sdc_rng (cB σ (o + 1) k 2)
  have d2 := sdr_rng (cB σ (o + 1) k 2)
  dsimp only [cB] at b0 b1 b2 b7 b8 hc hr d1 d2
  have hcs : sml c := by omega
  have hrs : sml r := by omega
  have hd : ∀ X, ((fun (r16 : Int) (σ17 : mMem) => if mw r16 = 0 then (g_X10_goAhead_b56 F o (k : Int) σ17) else (mob (g_X10_boxOn F o c r σ17) (fun r18 σ19 => if mw r18 = mw (-1) then (mob (g_X10_set F o (k : Int) 0 c σ19) (fun r20 σ21 => mob (g_X10_set F o (k : Int) 1 r σ21) (fun r22 σ23 => mob (g_X10_of F o (k : Int) 8 σ23) (fun r24 σ25 => if mw 2520 = 0 then none else (mob (g_X10_set F o (k : Int) 8 ((mw (r24 + 1)).tmod (mw 2520)) σ25) (fun r26 σ27 => if mw (k : Int) < 0 then (g_X10_goAhead_b137 F o (k : Int) σ27) else (if mw 6 ≤ mw (k : Int) then (g_X10_goAhead_b137 F o (k : Int) σ27) else (if 0 ≤ mw (k : Int) ∧ mw (k : Int) < (6 : Int) ∧ (mw 1 = 0 ∨ mw 1 = 1) then mlm (mup σ27 (o + 2) (mw (k : Int)).toNat 1) (fun σ28 => g_X10_goAhead_b137 F o (k : Int) σ28) else none)))))))) else (g_X10_goAhead_b56 F o (k : Int) σ19)))) (mb (sOn (σ p 9) (σ p 10) c r)) σ = X) → g_X10_goAhead F o (k : Int) σ = X := by
    intro X hX
    unfold g_X10_goAhead
    refine e_mob (zo_0 hk) ?_
    refine e_mob (zo_2 hk) ?_
    refine e_mob (z_colStep b2) ?_
    refine e_le c hc.symm ?_
    refine e_mob (zo_1 hk) ?_
    refine e_mob (zo_2 hk) ?_
    refine e_mob (z_rowStep b2) ?_
    refine e_le r hr.symm ?_
    refine e_t hp ?_
    rw [hp2]
    exact e_mob (z_hasCell hcs hrs (by omega) (by omega)) hX
  have hbo : g_X10_boxOn F o c r σ = some (xWho (cB σ (o + 1)) c r n, σ) := by
    unfold g_X10_boxOn
    refine e_t hp ?_
    rw [hp2, h11]
    exact e_mob (z_boxIn (n := n) rfl hn (by omega) hcs hrs hA) rfl
  have h56 : g_X10_goAhead_b56 F o (k : Int) σ = some (0, mup (mup σ (o + 1) (10 * k + 9) (σ (o + 1) (10 * k + 9) + 1)) o 7 (σ o 7 + 1)) := by
    unfold g_X10_goAhead_b56
    refine e_mob (zo_9 hk) ?_
    refine e_mob (zs_9 hk) ?_
    refine e_mem ?_
    rw [mup_ne (by omega)]
  have hwr := xWho_rng (A := cB σ (o + 1)) (c := c) (r := r) n
  constructor
  · intro hnf
    apply hd
    dsimp only
    by_cases hon : sOn (σ p 9) (σ p 10) c r
    · rw [mb_t hon]
      refine e_f (by decide) ?_
      refine e_mob hbo ?_
      refine e_f ?_ h56
      rw [mw_id (by omega) (by omega), mw_id (by omega) (by omega)]
      exact fun q => hnf ⟨hon, q⟩
    · rw [mb_f hon]
      exact e_t (by decide) h56
  · intro hfr
    have eg : (mw (σ (o + 1) (10 * k + 8) + 1)).tmod (mw 2520) = (σ (o + 1) (10 * k + 8) + 1) % 2520 := by simp (disch := omega) only [mw_id, mwl_id, mtmod, mtdiv]
    have b137 : ∀ τ : mMem, τ (o + 1) (10 * k + 7) = σ (o + 1) (10 * k + 7) → τ (o + 1) (10 * k + 8) = (σ (o + 1) (10 * k + 8) + 1) % 2520 → τ (o + 1) (10 * k + 2) = σ (o + 1) (10 * k + 2) → ∃ σ', g_X10_goAhead_b137 F o (k : Int) τ = some (0, σ') ∧ (∀ q, q ≠ o → q ≠ o + 1 → σ' q = τ q) ∧ σ' o = mup1 (τ o) 6 (τ o 6 + 1) ∧ σ' (o + 1) = mup1 (τ (o + 1)) (10 * k + 2) (if 0 < σ (o + 1) (10 * k + 7) ∧ (σ (o + 1) (10 * k + 8) + 1) % 2520 % σ (o + 1) (10 * k + 7) = 0 then (σ (o + 1) (10 * k + 2) + 1) % 4 else σ (o + 1) (10 * k + 2)) := by
      intro τ t7 t8 t2
      have same : ∀ w : Int, w = σ (o + 1) (10 * k + 2) → mup1 (τ (o + 1)) (10 * k + 2) w = τ (o + 1) := by
        intro w hw
        funext j
        unfold mup1
        split
        · rename_i e
          rw [hw, e, t2]
        · rfl
      have m7 : (mup τ o 6 (τ o 6 + 1)) (o + 1) (10 * k + 7) = σ (o + 1) (10 * k + 7) := by rw [mup_ne (by omega)]; exact t7
      have m8 : (mup τ o 6 (τ o 6 + 1)) (o + 1) (10 * k + 8) = (σ (o + 1) (10 * k + 8) + 1) % 2520 := by rw [mup_ne (by omega)]; exact t8
      have m2 : (mup τ o 6 (τ o 6 + 1)) (o + 1) (10 * k + 2) = σ (o + 1) (10 * k + 2) := by rw [mup_ne (by omega)]; exact t2
      unfold g_X10_goAhead_b137 g_X10_goAhead_b180
      by_cases c7 : 0 < σ (o + 1) (10 * k + 7)
      · by_cases c8 : (σ (o + 1) (10 * k + 8) + 1) % 2520 % σ (o + 1) (10 * k + 7) = 0
        · refine ⟨mup (mup τ o 6 (τ o 6 + 1)) (o + 1) (10 * k + 2) ((σ (o + 1) (10 * k + 2) + 1) % 4), ?_, ?_, ?_, ?_⟩
          · refine e_mem (e_mob (zo_7 hk) ?_)
            rw [m7]
            refine e_f (by (try simp (disch := omega) only [mw_id, mwl_id, mw_mb, mb_0, mb_1]) <;> omega) ?_
            refine e_mob (zo_8 hk) ?_
            rw [m8]
            refine e_f (by (try simp (disch := omega) only [mw_id, mwl_id, mw_mb, mb_0, mb_1]) <;> omega) ?_
            refine e_f ?_ ?_
            · rw [mtm (by omega) (by omega)]
              exact fun q => q c8
            · refine e_mob (zt_1 hk) ?_
              rw [m2, mand3 (by omega) (by omega)]
          · intro q h1 h2
            rw [mup_off h2, mup_off h1]
          · rw [mup_off (by omega), mup_row]
          · rw [if_pos ⟨c7, c8⟩, mup_row, mup_off (by omega)]
        · refine ⟨mup τ o 6 (τ o 6 + 1), ?_, ?_, ?_, ?_⟩
          · refine e_mem (e_mob (zo_7 hk) ?_)
            rw [m7]
            refine e_f (by (try simp (disch := omega) only [mw_id, mwl_id, mw_mb, mb_0, mb_1]) <;> omega) ?_
            refine e_mob (zo_8 hk) ?_
            rw [m8]
            refine e_f (by (try simp (disch := omega) only [mw_id, mwl_id, mw_mb, mb_0, mb_1]) <;> omega) ?_
            refine e_t ?_ rfl
            rw [mtm (by omega) (by omega)]
            exact c8
          · intro q h1 _
            rw [mup_off h1]
          · rw [mup_row]
          · rw [if_neg (fun q => c8 q.2), same _ rfl, mup_off (by omega)]
      · refine ⟨mup τ o 6 (τ o 6 + 1), ?_, ?_, ?_, ?_⟩
        · refine e_mem (e_mob (zo_7 hk) ?_)
          rw [m7]
          refine e_t (by (try simp (disch := omega) only [mw_id, mwl_id, mw_mb, mb_0, mb_1]) <;> omega) ?_
          rfl
        · intro q h1 _
          rw [mup_off h1]
        · rw [mup_row]
        · rw [if_neg (fun q => c7 q.1), same _ rfl, mup_off (by omega)]
    have hm3 : ∀ j, mup (mup (mup (mup σ (o + 1) (10 * k + 0) c) (o + 1) (10 * k + 1) r) (o + 1) (10 * k + 8) ((σ (o + 1) (10 * k + 8) + 1) % 2520)) (o + 2) k 1 (o + 1) j = mup1 (mup1 (mup1 (σ (o + 1)) (10 * k + 0) c) (10 * k + 1) r) (10 * k + 8) ((σ (o + 1) (10 * k + 8) + 1) % 2520) j := by
      intro j
      rw [mup_off (by omega), mup_row, mup_row, mup_row]
    obtain ⟨σ', e1, e2, e3, e4⟩ := b137 (mup (mup (mup (mup σ (o + 1) (10 * k + 0) c) (o + 1) (10 * k + 1) r) (o + 1) (10 * k + 8) ((σ (o + 1) (10 * k + 8) + 1) % 2520)) (o + 2) k 1)
      (by rw [hm3]; unfold mup1; rw [if_neg (by omega), if_neg (by omega), if_neg (by omega)]) (by rw [hm3]; unfold mup1; rw [if_pos rfl]) (by rw [hm3]; unfold mup1; rw [if_neg (by omega), if_neg (by omega), if_neg (by omega)])
    refine ⟨σ', ?_, ?_, ?_, ?_, ?_⟩
    · apply hd
      dsimp only
      rw [mb_t hfr.1]
      refine e_f (by decide) ?_
      refine e_mob hbo ?_
      refine e_t (by rw [hfr.2]) ?_
      refine e_mob (zs_0 hk) ?_
      refine e_mob (zs_1 hk) ?_
      refine e_mob (zo_8 hk) ?_
      refine e_f (by decide) ?_
      rw [mup_ne (by omega), mup_ne (by omega), eg]
      refine e_mob (zs_8 hk) ?_
      refine e_f (by rw [mw_id (by omega) (by omega)]; omega) ?_
      refine e_f (by rw [mw_id (by omega) (by omega), mw_id (by omega) (by omega)]; omega) ?_
      refine e_t (by rw [mw_id (z := (k : Int)) (by omega) (by omega)]; exact ⟨by omega, by omega, Or.inr (by decide)⟩) ?_
      rw [show (mw (k : Int)).toNat = k by rw [mw_id (by omega) (by omega)]; omega]
      exact e_mem e1
    · intro q h1 h2 h3
      rw [e2 q h1 h2, mup_off h3, mup_off h2, mup_off h2, mup_off h2]
    · rw [e3, mup_off (by omega), mup_off (by omega), mup_off (by omega), mup_off (by omega)]
    · rw [e2 _ (by omega) (by omega), mup_row, mup_off (by omega), mup_off (by omega), mup_off (by omega)]
    · rw [e4, (funext hm3 : _ = _)]
