/-! LAYER 2: remember, keeps -/
def Oth (σ' σ : mMem) : Prop := (∀ q, ((1 ≤ q ∧ q ≤ 19) ∨ q = 35 ∨ q = 36 ∨ q = 77 ∨ q = 78 ∨ q = 85 ∨ (87 ≤ q ∧ q ≤ 109) ∨ 122 ≤ q) → σ' q = σ q) ∧ (∀ j, j ≠ 12 → σ' 0 j = σ 0 j) ∧ σ' 20 3 = σ 20 3 ∧ ∀ j, j ≠ 52 → j ≠ 53 → j ≠ 54 → j ≠ 63 → j ≠ 64 → σ' 86 j = σ 86 j
theorem RP.of {σ σ' : mMem} {p s : Nat} (h : Oth σ' σ) (r : RP σ p s) : RP σ' p s := by
  obtain ⟨o1, o2, o3, o4⟩ := h
  obtain ⟨r1, r2, r3, r4, r5, r6⟩ := r
  have e0 : σ' p = σ p := o1 p (Or.inl (by omega))
  have e1 : σ' (p + 1) = σ (p + 1) := o1 (p + 1) (Or.inl (by omega))
  have e2 : σ' (p + 2) = σ (p + 2) := o1 (p + 2) (Or.inl (by omega))
  have e4 : σ' (p + 4) = σ (p + 4) := o1 (p + 4) (Or.inl (by omega))
  have e13 : σ' 86 13 = σ 86 13 := o4 13 (by decide) (by decide) (by decide) (by decide) (by decide)
  refine ⟨r1, ?_, r3.same e0 e1 e4, (r4.same (fun q q1 q2 => o1 q (by omega)) e13).rows e0 e1 e4, ?_, ?_⟩
  · rw [o2 8 (by decide), o2 9 (by decide), o3]; exact r2
  · rw [e13, e0, o1 97 (by decide)]; exact r5
  · rw [e13, e0, e2, o1 102 (by decide)]; exact r6
theorem Oth.bk {σ σ' : mMem} {p : Nat} (h : Oth σ' σ) (hp : p = 3 ∨ p = 8) (h57 : σ 86 57 = -1) (h60 : σ 86 60 = -1) : BK σ' σ p := by
  obtain ⟨o1, o2, o3, o4⟩ := h
  exact ⟨o1 p (Or.inl (by omega)), o4 13 (by decide) (by decide) (by decide) (by decide) (by decide), ⟨h57, by rw [o4 57 (by decide) (by decide) (by decide) (by decide) (by decide)]; exact h57⟩, ⟨h60, by rw [o4 60 (by decide) (by decide) (by decide) (by decide) (by decide)]; exact h60⟩, o1 94 (by decide), o1 95 (by decide), o1 96 (by decide)⟩
/-- an act: both remembered what was -/
theorem Rel.act {σ σ' : mMem} {p s : Nat} {N N' : Int} (r : Rel σ p s N) (hN : N ≤ N') (o : Oth σ' σ) (pc : PuC σ' σ) (pr : PuR σ' σ) (hS : RS σ') (hR : RN σ' p N') : Rel σ' p s N' := by
  have hp : p = 3 ∨ p = 8 := by have := r.2.2.2.2.1.1; omega
  have hn : σ p 11 ≤ 6 := r.2.2.2.2.1.2.2.1.2.2.1.2
  have h57 := r.2.2.2.2.2.1.2.1
  have h60 := r.2.2.2.2.2.1.2.2.1
  have bk := o.bk hp h57 h60
  have o6 : ∀ j, j = 1 ∨ j = 10 ∨ j = 11 ∨ j = 66 ∨ j = 71 → σ' 86 j = σ 86 j := fun j hj => o.2.2.2 j (by omega) (by omega) (by omega) (by omega) (by omega)
  refine ⟨r.1.of (by rw [o.1 1 (by decide)]) (o.1 2 (by decide)) (o.1 87 (by decide)) (o6 1 (by decide)), r.2.1.of hN (o.1 85 (by decide)) (o.1 109 (by decide)), r.2.2.1.of (o.2.1 10 (by decide)) (o.2.1 11 (by decide)) (o6 10 (by decide)) (o6 11 (by decide)), hS, r.2.2.2.2.1.of o, hR, r.2.2.2.2.2.2.1.push r.2.2.2.2.2.1.1 hN hn bk pc pr, r.2.2.2.2.2.2.2.1.of (by rw [o.1 35 (by decide)]) (o.1 36 (by decide)) (o6 66 (by decide)) (o.1 122 (by decide)) (o.1 123 (by decide)), r.2.2.2.2.2.2.2.2.of (by rw [o.1 77 (by decide)]) (o.1 78 (by decide)) (o6 71 (by decide)) (o.1 125 (by decide))⟩
theorem zc_saveTo {F R : Nat} {σ : mMem} (hR : 50 ≤ R) : ∃ σ', g_X10_saveTo F 20 R 123 σ = some (0, σ') ∧ (∀ q, q ≠ R → σ' q = σ q) ∧ (∀ j, j < 60 → σ' R j = σ 21 j) ∧ σ' R 60 = σ 20 4 ∧ σ' R 61 = σ 20 5 := by
  refine ⟨mup (mup (mupo σ R (mcpy (σ 21) (σ R) 0 0 60)) R 60 (σ 20 4)) R 61 (σ 20 5), ?_, fun q hq => ?_, fun j hj => ?_, ?_, ?_⟩
  · unfold g_X10_saveTo g_X10_saveTo_b35
    refine e_f (by decide) (e_t (by decide) (e_mem (e_t (by decide) (e_mem (e_t (by decide) (e_mem ?_))))))
    have m4 : mupo σ R (mcpy (σ (20 + 1)) (σ R) (mw 0).toNat (mw 0).toNat (mw 60).toNat) 20 4 = σ 20 4 := mupo_ne (by omega)
    have m5 : mup (mupo σ R (mcpy (σ (20 + 1)) (σ R) (mw 0).toNat (mw 0).toNat (mw 60).toNat)) R (mw 60).toNat (σ 20 4) 20 5 = σ 20 5 := by rw [mup_ne (by omega)]; exact mupo_ne (by omega)
    rw [m4, m5]
    rfl
  · rw [mup_off hq, mup_off hq]
    funext j
    exact mupo_ne hq
  · rw [mup_ne (by omega), mup_ne (by omega), mupo_at rfl]
    unfold mcpy
    rw [if_pos (by omega), show 0 + (j - 0) = j by omega]
  · rw [mup_ne (by omega), mup_at rfl rfl]
  · rw [mup_at rfl rfl]
theorem zc_remember {F : Nat} {σ : mMem} (h3 : 0 ≤ σ 54 3 ∧ σ 54 3 ≤ 19) (h4 : 0 ≤ σ 54 4 ∧ σ 54 4 ≤ 20) : ∃ σ', g_X3_remember F 20 σ = some (0, σ') ∧ PuC σ' σ ∧ (∀ q, ¬ (56 ≤ q ∧ q ≤ 75) → q ≠ 54 → σ' q = σ q) ∧ (∀ j, j ≠ 3 → j ≠ 4 → σ' 54 j = σ 54 j) := by
  obtain ⟨k, hk⟩ : ∃ k : Nat, σ 54 3 = (k : Int) := ⟨(σ 54 3).toNat, by omega⟩
  obtain ⟨σ5, a1, a2, a3, a4, a5⟩ := zc_saveTo (F := F) (R := 56 + k) (σ := σ) (by omega)
  have b54 : σ5 54 = σ 54 := a2 54 (by omega)
  have b76 : σ5 76 = σ 76 := a2 76 (by omega)
  obtain ⟨σ6, e6⟩ : ∃ x, x = mup σ5 (56 + k) 62 (σ5 54 2) := ⟨_, rfl⟩
  have c76 : σ6 76 = σ 76 := by rw [e6, mup_off (by omega), b76]
  obtain ⟨σ7, e7⟩ : ∃ x, x = mupo σ6 (56 + k) (mcpy (σ6 76) (σ6 (56 + k)) 0 63 60) := ⟨_, rfl⟩
  have off7 : ∀ q, q ≠ 56 + k → σ7 q = σ q := fun q hq => by
    rw [e7]
    funext j
    rw [mupo_ne hq, e6, mup_off hq, a2 q hq]
  have d3 : σ7 54 3 = (k : Int) := by rw [off7 54 (by omega), hk]
  have row7 : σ7 (56 + k) = mcpy (σ 76) (σ6 (56 + k)) 0 63 60 := by rw [e7, mupo_at rfl, c76]
  have row6 : ∀ j, j ≠ 62 → σ6 (56 + k) j = σ5 (56 + k) j := fun j hj => by rw [e6, mup_ne (by omega)]
  refine ⟨mup (mup σ7 54 3 (((k : Int) + 1) % 20)) 54 4 (min 20 (σ 54 4 + 1)), ?_, ?_, fun q q1 q2 => ?_, fun j j1 j2 => ?_⟩
  · unfold g_X3_remember
    refine e_mob (z_fmod (by omega) (by decide)) ?_
    rw [hk, show (k : Int) % 20 = (k : Int) by omega, mwN (by omega), show 55 + 1 + k = 56 + k by omega]
    refine e_t (mwR (by omega) (by decide)) (e_mob a1 (e_t (by decide) (e_mem ?_)))
    rw [show (mw 62).toNat = 62 by decide, ← e6, show (mw 0).toNat = 0 by decide, show (mw 63).toNat = 63 by decide, show (mw 60).toNat = 60 by decide]
    refine e_t (by decide) (e_mem ?_)
    rw [← e7, d3, mw_id (z := (k : Int) + 1) (by omega) (by omega), mw_id (z := 20) (by decide) (by decide), mtmod (by omega)]
    refine e_f (by decide) (e_mem ?_)
    have d4 : mup σ7 54 3 (((k : Int) + 1) % 20) 54 4 = σ 54 4 := by rw [mup_ne (by decide), off7 54 (by omega)]
    rw [d4]
    exact e_mob (z_min (by omega)) rfl
  · unfold PuC
    rw [show (σ 54 3).toNat = k by omega]
    refine ⟨fun q q1 q2 q3 => ?_, fun j hj => ?_, ?_, ?_, ?_, fun j hj => ?_, ?_, ?_⟩
    · rw [mup_off (by omega), mup_off (by omega), off7 q q3]
    · rw [mup_off (by omega), mup_off (by omega), row7]
      unfold mcpy
      rw [if_neg (by omega), row6 j (by omega), a3 j hj]
    · rw [mup_off (by omega), mup_off (by omega), row7]
      unfold mcpy
      rw [if_neg (by omega), row6 60 (by omega), a4]
    · rw [mup_off (by omega), mup_off (by omega), row7]
      unfold mcpy
      rw [if_neg (by omega), row6 61 (by omega), a5]
    · rw [mup_off (by omega), mup_off (by omega), row7]
      unfold mcpy
      rw [if_neg (by omega), e6, mup_at rfl rfl, b54]
    · rw [mup_off (by omega), mup_off (by omega), row7]
      unfold mcpy
      rw [if_pos (by omega), show 0 + (63 + j - 63) = j by omega]
    · rw [mup_ne (by decide), mup_at rfl rfl, hk]
    · rw [mup_at rfl rfl]
  · rw [mup_off q2, mup_off q2, off7 q (by omega)]
  · rw [mup_ne (by omega), mup_ne (by omega), off7 54 (by omega)]
theorem zr_k32 {F : Nat} {τ : mMem} (hF : 2000 ≤ F) (h52 : 0 ≤ τ 86 52 ∧ τ 86 52 ≤ 19) (h53 : 0 ≤ τ 86 53 ∧ τ 86 53 ≤ 19) (hm : 0 ≤ τ 117 0 ∧ τ 117 0 ≤ 60) : ∃ (τ' : mMem) (S : Nat), g_X12_keeps_b32 F τ = some (0, τ') ∧ (2 ≤ S ∧ S < 22) ∧ (S : Int) = 2 + (τ 86 52 + τ 86 53) % 20 ∧ LE τ' S τ 0 ∧ (∀ L, L < 22 → L ≠ S → LE τ' L τ L) ∧ τ' 86 53 = τ 86 53 + 1 ∧ (∀ j, j ≠ 53 → τ' 86 j = τ 86 j) ∧ ∀ q, ((q < 110 ∧ q ≠ 86) ∨ 118 < q) → τ' q = τ q := by
  obtain ⟨S, hS⟩ : ∃ S : Nat, (S : Int) = 2 + (τ 86 52 + τ 86 53) % 20 := ⟨(2 + (τ 86 52 + τ 86 53) % 20).toNat, by omega⟩
  obtain ⟨τ1, a1, a2, a3, a4, a5, a6, a7, a8⟩ := zr_copies (F := F) (a := S) (b := 0) (τ := τ) hF (by omega) (by decide) (by omega) hm
  refine ⟨mup τ1 86 53 (τ 86 53 + 1), S, ?_, by omega, hS, ?_, fun L l1 l2 => ?_, mup_at rfl rfl, fun j hj => ?_, fun q hq => ?_⟩
  · unfold g_X12_keeps_b32 g_X12_slot
    rw [mw_id (z := τ 86 52 + τ 86 53) (by omega) (by omega), mw_id (z := 20) (by decide) (by decide), mtmod (by omega), ← hS]
    refine e_mob (e_f (by decide) rfl) (e_mob a1 (e_mem ?_))
    rw [a2 86 (by decide)]
  · refine ⟨by rw [mup_off (by decide), a3, mup1_at rfl], by rw [mup_off (by decide), a4, mup1_at rfl], by rw [mup_off (by decide), a5, mup1_at rfl], fun q q1 q2 k hk => by rw [mup_off (by omega)]; exact (a6 q q1 q2).2 k hk, fun k _ hk => by rw [mup_off (by decide)]; exact a8 k hk⟩
  · refine ⟨by rw [mup_off (by decide), a3, mup1_ne l2], by rw [mup_off (by decide), a4, mup1_ne l2], by rw [mup_off (by decide), a5, mup1_ne l2], fun q q1 q2 k hk => by rw [mup_off (by omega)]; exact (a6 q q1 q2).1 _ (by omega), fun k k2 hk => ?_⟩
    rw [mup_off (by decide)]
    exact a7 _ (by omega)
  · rw [mup_ne (by omega), a2 86 (by decide)]
  · rw [mup_off (by omega), a2 q (by omega)]
theorem zr_keeps {F : Nat} {τ : mMem} (hF : 2000 ≤ F) (h52 : 0 ≤ τ 86 52 ∧ τ 86 52 ≤ 19) (h53 : 0 ≤ τ 86 53 ∧ τ 86 53 ≤ 20) (hm : 0 ≤ τ 117 0 ∧ τ 117 0 ≤ 60) : ∃ τ', g_X12_keeps F τ = some (0, τ') ∧ PuR τ' τ ∧ LE τ' 0 τ 0 ∧ (∀ j, j ≠ 52 → j ≠ 53 → τ' 86 j = τ 86 j) ∧ ∀ q, ((q < 110 ∧ q ≠ 86) ∨ 118 < q) → τ' q = τ q := by
  by_cases c : τ 86 53 = 20
  · obtain ⟨υ, eu⟩ : ∃ x, x = mup (mup τ 86 52 ((τ 86 52 + 1) % 20)) 86 53 19 := ⟨_, rfl⟩
    have u52 : υ 86 52 = (τ 86 52 + 1) % 20 := by rw [eu, mup_ne (by decide), mup_at rfl rfl]
    have u53 : υ 86 53 = 19 := by rw [eu, mup_at rfl rfl]
    have uq : ∀ q, q ≠ 86 → υ q = τ q := fun q hq => by rw [eu, mup_off hq, mup_off hq]
    have uj : ∀ j, j ≠ 52 → j ≠ 53 → υ 86 j = τ 86 j := fun j j1 j2 => by rw [eu, mup_ne (by omega), mup_ne (by omega)]
    obtain ⟨τ', S, a1, a2, a3, a4, a5, a6, a7, a8⟩ := zr_k32 (F := F) (τ := υ) hF (by omega) (by omega) (by rw [uq 117 (by decide)]; exact hm)
    have le : ∀ L, LE υ L τ L := fun L => LE.of (fun q q1 q2 => uq q (by omega))
    refine ⟨τ', ?_, ⟨S, a2, a4.tr (le 0), fun L l1 l2 l3 => (a5 L l2 l3).tr (le L), Or.inl ⟨c, ?_, ?_, ?_⟩⟩, (a5 0 (by decide) (by omega)).tr (le 0), fun j j1 j2 => ?_, fun q hq => ?_⟩
    · unfold g_X12_keeps
      rw [c, mw_id (z := τ 86 52 + 1) (by omega) (by omega), mw_id (z := 20) (by decide) (by decide), mtmod (by omega)]
      refine e_f (fun e => e rfl) (e_f (by decide) (e_mem (e_mem ?_)))
      rw [mup_ne (by decide), c, show (20 : Int) - 1 = 19 by decide, ← eu]
      exact a1
    · rw [a7 52 (by decide), u52]
    · rw [a6, u53]; decide
    · rw [a3, u52, u53]; omega
    · rw [a7 j j2, uj j j1 j2]
    · rw [a8 q hq, uq q (by omega)]
  · obtain ⟨τ', S, a1, a2, a3, a4, a5, a6, a7, a8⟩ := zr_k32 (F := F) (τ := τ) hF h52 (by omega) hm
    refine ⟨τ', ?_, ⟨S, a2, a4, fun L l1 l2 l3 => a5 L l2 l3, Or.inr ⟨by omega, a7 52 (by decide), a6, a3⟩⟩, a5 0 (by decide) (by omega), fun j j1 j2 => a7 j j2, a8⟩
    unfold g_X12_keeps
    rw [mw_id (z := τ 86 53) (by omega) (by omega), mw_id (z := 20) (by decide) (by decide)]
    exact e_t c a1
