/-! LAYER 2: undo -/
theorem Rel.oth {σ σ' : mMem} {p s : Nat} {N N' : Int} (r : Rel σ p s N) (hN : N ≤ N') (o : Oth σ' σ) (hS : RS σ') (hR : RN σ' p N') (hU : RU σ' p N') : Rel σ' p s N' := by
  have o6 : ∀ j, j = 1 ∨ j = 10 ∨ j = 11 ∨ j = 66 ∨ j = 71 → σ' 86 j = σ 86 j := fun j hj => o.2.2.2 j (by omega) (by omega) (by omega) (by omega) (by omega)
  exact ⟨r.1.of (by rw [o.1 1 (by decide)]) (o.1 2 (by decide)) (o.1 87 (by decide)) (o6 1 (by decide)), r.2.1.of hN (o.1 85 (by decide)) (o.1 109 (by decide)), r.2.2.1.of (o.2.1 10 (by decide)) (o.2.1 11 (by decide)) (o6 10 (by decide)) (o6 11 (by decide)), hS, r.2.2.2.2.1.of o, hR, hU, r.2.2.2.2.2.2.2.1.of (by rw [o.1 35 (by decide)]) (o.1 36 (by decide)) (o6 66 (by decide)) (o.1 122 (by decide)) (o.1 123 (by decide)), r.2.2.2.2.2.2.2.2.of (by rw [o.1 77 (by decide)]) (o.1 78 (by decide)) (o6 71 (by decide)) (o.1 125 (by decide))⟩
theorem zc_loadFrom {F R : Nat} {σ : mMem} (hR : 50 ≤ R) : ∃ σ', g_X10_loadFrom F 20 R 123 σ = some (0, σ') ∧ (∀ q, q ≠ 20 → q ≠ 21 → σ' q = σ q) ∧ (∀ j, j < 60 → σ' 21 j = σ R j) ∧ σ' 20 4 = σ R 60 ∧ σ' 20 5 = σ R 61 ∧ ∀ j, j ≠ 4 → j ≠ 5 → σ' 20 j = σ 20 j := by
  obtain ⟨σ1, e1⟩ : ∃ x, x = mupo σ 21 (mcpy (σ R) (σ 21) 0 0 60) := ⟨_, rfl⟩
  have o1 : ∀ q, q ≠ 21 → σ1 q = σ q := fun q hq => by
    rw [e1]
    funext j
    exact mupo_ne hq
  refine ⟨mup (mup σ1 20 4 (σ R 60)) 20 5 (σ R 61), ?_, fun q q1 q2 => ?_, fun j hj => ?_, ?_, ?_, fun j j1 j2 => ?_⟩
  · unfold g_X10_loadFrom g_X10_loadFrom_b35
    refine e_f (by decide) (e_t (by decide) (e_mem ?_))
    rw [show (mw 0).toNat = 0 by decide, show (mw 60).toNat = 60 by decide, show (mw 61).toNat = 61 by decide, show 20 + 1 = 21 by decide, ← e1, o1 R (by omega)]
    refine e_t (by decide) (e_mem (e_t (by decide) (e_mem ?_)))
    rw [mup_off (q := R) (by omega), o1 R (by omega)]
  · rw [mup_off q1, mup_off q1, o1 q q2]
  · rw [mup_off (by decide), mup_off (by decide), e1, mupo_at rfl]
    unfold mcpy
    rw [if_pos (by omega), show 0 + (j - 0) = j by omega]
  · rw [mup_ne (by decide), mup_at rfl rfl]
  · rw [mup_at rfl rfl]
  · rw [mup_ne (by omega), mup_ne (by omega), o1 20 (by decide)]
theorem zc_restore {F : Nat} {σ : mMem} (h3 : 0 ≤ σ 54 3 ∧ σ 54 3 ≤ 19) (h4 : 0 < σ 54 4 ∧ σ 54 4 ≤ 20) : ∃ (σ' : mMem) (k : Nat), (k : Int) = (σ 54 3 - 1) % 20 ∧ g_X3_restore F 20 σ = some (0, σ') ∧ (∀ q, q ≠ 20 → q ≠ 21 → q ≠ 54 → q ≠ 76 → σ' q = σ q) ∧ (∀ j, j < 60 → σ' 21 j = σ (56 + k) j) ∧ σ' 20 4 = σ (56 + k) 60 ∧ σ' 20 5 = σ (56 + k) 61 ∧ (∀ j, j ≠ 4 → j ≠ 5 → σ' 20 j = σ 20 j) ∧ σ' 54 2 = σ (56 + k) 62 ∧ (∀ j, j < 60 → σ' 76 j = σ (56 + k) (63 + j)) ∧ σ' 54 3 = (k : Int) ∧ σ' 54 4 = σ 54 4 - 1 := by
  obtain ⟨k, hk⟩ : ∃ k : Nat, (k : Int) = (σ 54 3 - 1) % 20 := ⟨((σ 54 3 - 1) % 20).toNat, by omega⟩
  obtain ⟨σ3, e3⟩ : ∃ x, x = mup σ 54 3 (k : Int) := ⟨_, rfl⟩
  have o3 : ∀ q, q ≠ 54 → σ3 q = σ q := fun q hq => by rw [e3, mup_off hq]
  have v3 : σ3 54 3 = (k : Int) := by rw [e3, mup_at rfl rfl]
  obtain ⟨σ6, a1, a2, a3, a4, a5, a6⟩ := zc_loadFrom (F := F) (R := 56 + k) (σ := σ3) (by omega)
  obtain ⟨σ7, e7⟩ : ∃ x, x = mup σ6 54 2 (σ (56 + k) 62) := ⟨_, rfl⟩
  have o7 : ∀ q, q ≠ 54 → σ7 q = σ6 q := fun q hq => by rw [e7, mup_off hq]
  have r6 : σ6 (56 + k) = σ (56 + k) := by rw [a2 _ (by omega) (by omega), o3 _ (by omega)]
  obtain ⟨σ8, e8⟩ : ∃ x, x = mupo σ7 76 (mcpy (σ7 (56 + k)) (σ7 76) 63 0 60) := ⟨_, rfl⟩
  have o8 : ∀ q, q ≠ 76 → σ8 q = σ7 q := fun q hq => by
    rw [e8]
    funext j
    exact mupo_ne hq
  have v84 : σ8 54 4 = σ 54 4 := by rw [o8 54 (by decide), e7, mup_ne (by decide), a2 54 (by decide) (by decide), e3, mup_ne (by decide)]
  have v82 : σ8 54 2 = σ (56 + k) 62 := by rw [o8 54 (by decide), e7, mup_at rfl rfl]
  have v83 : σ8 54 3 = (k : Int) := by rw [o8 54 (by decide), e7, mup_ne (by decide), a2 54 (by decide) (by decide), v3]
  refine ⟨mup σ8 54 4 (σ 54 4 - 1), k, hk, ?_, fun q q1 q2 q3 q4 => ?_, fun j hj => ?_, ?_, ?_, fun j j1 j2 => ?_, ?_, fun j hj => ?_, ?_, mup_at rfl rfl⟩
  · unfold g_X3_restore
    refine e_t (by rw [mw_id (by omega) (by omega)]; exact h4.1) (e_mob (z_fmod (by omega) (by decide)) (e_mem ?_))
    rw [← hk, ← e3, v3, mwN (by omega), show 55 + 1 + k = 56 + k by omega]
    refine e_t (mwR (by omega) (by decide)) (e_mob a1 (e_t (by decide) (e_mem ?_)))
    rw [show (mw 62).toNat = 62 by decide, show (mw 0).toNat = 0 by decide, show (mw 63).toNat = 63 by decide, show (mw 60).toNat = 60 by decide, r6, ← e7]
    refine e_t (by decide) (e_mem ?_)
    rw [← e8]
    refine e_mem ?_
    rw [v84]
  · rw [mup_off q3, o8 q q4, o7 q q3, a2 q q1 q2, o3 q q3]
  · rw [mup_off (by decide), o8 21 (by decide), o7 21 (by decide), a3 j hj, o3 _ (by omega)]
  · rw [mup_off (by decide), o8 20 (by decide), o7 20 (by decide), a4, o3 _ (by omega)]
  · rw [mup_off (by decide), o8 20 (by decide), o7 20 (by decide), a5, o3 _ (by omega)]
  · rw [mup_off (by decide), o8 20 (by decide), o7 20 (by decide), a6 j j1 j2, o3 20 (by decide)]
  · rw [mup_ne (by decide), v82]
  · rw [mup_off (by decide), e8, mupo_at rfl]
    unfold mcpy
    rw [if_pos (by omega), show 63 + (j - 0) = 63 + j by omega, o7 _ (by omega), r6]
  · rw [mup_ne (by decide), v83]
theorem a_undo {F : Nat} {σ : mMem} {p s : Nat} {N : Int} (hF : 2000 ≤ F) (r : Rel σ p s N) : Alk (g_X11_undo F) (g_X12_undo F) σ N := by
  obtain ⟨hp, h08, h08n, h20, h20n, hP, hR, h11, h9, h10, hB, hst, hla, h57, h60, h62⟩ := r.now
  obtain ⟨u1, u2, u3, u4, u5⟩ := r.2.2.2.2.2.2.1
  have hs4 := r.2.2.2.1
  unfold Alk g_X11_undo g_X12_undo g_X12_undo_b20
  by_cases c : σ 54 4 = 0
  · refine ⟨0, mup σ 85 4 (σ 85 4 + 1), mup (mup σ 85 4 (σ 85 4 + 1)) 109 4 (σ 109 4 + 1), p, s, ?_, ?_, r.refuse⟩
    · rw [c]
      exact e_f (by decide) (e_mob (zc_refuse (k := 4) (by decide)) (e_t (by decide) rfl))
    · rw [mup_off (o := 85) (q := 86) (by decide), u2, c]
      refine e_f (by decide) (e_mob (zr_refuses (k := 4) (by decide)) (e_t (by decide) (e_t (by decide) ?_)))
      rw [mup_ne (o := 85) (by decide)]
  · obtain ⟨σ1, k, hk, a1, a2, a3, a4, a5, a6, a7, a8, a9, a10⟩ := zc_restore (F := F) (σ := σ) u3 (by omega)
    obtain ⟨S, hS⟩ : ∃ S : Nat, (S : Int) = 2 + (σ 86 52 + σ 54 4 - 1) % 20 := ⟨(2 + (σ 86 52 + σ 54 4 - 1) % 20).toNat, by omega⟩
    have e86 : σ1 86 = σ 86 := a2 86 (by decide) (by decide) (by decide) (by decide)
    obtain ⟨υ, eu⟩ : ∃ x, x = mup σ1 86 53 (σ 54 4 - 1) := ⟨_, rfl⟩
    have ou : ∀ q, q ≠ 86 → υ q = σ1 q := fun q hq => by rw [eu, mup_off hq]
    have u0 := u5 0 (by omega)
    have eR : 56 + ((σ 54 3 - 1 - ((0 : Nat) : Int)) % 20).toNat = 56 + k := by omega
    have eL : 2 + ((σ 86 52 + σ 54 4 - 1 - ((0 : Nat) : Int)) % 20).toNat = S := by omega
    rw [eR, eL] at u0
    have eLay : ∀ q, 110 ≤ q → q ≤ 118 → υ q = σ q := fun q q1 q2 => by rw [ou q (by omega), a2 q (by omega) (by omega) (by omega) (by omega)]
    have hK := u0.2.2.2.1
    have k17 := hK.2.1
    have kT := hK.1
    obtain ⟨τ, b1, b2, b3, b4, b5, b6, b7, b8⟩ := zr_copies (F := F) (a := 0) (b := S) (τ := υ) hF (by decide) (by omega) (by omega) (by rw [eLay 117 (by decide) (by decide)]; omega)
    have low : ∀ q, q < 110 → q ≠ 86 → q ≠ 20 → q ≠ 21 → q ≠ 54 → q ≠ 76 → τ q = σ q := fun q q1 q2 q3 q4 q5 q6 => by rw [b2 q (by omega), ou q q2, a2 q q3 q4 q5 q6]
    have t86 : ∀ j, j ≠ 53 → τ 86 j = σ 86 j := fun j hj => by rw [b2 86 (by decide), eu, mup_ne (by omega), e86]
    have t53 : τ 86 53 = σ 54 4 - 1 := by rw [b2 86 (by decide), eu, mup_at rfl rfl]
    have t20 : τ 20 = σ1 20 := by rw [b2 20 (by decide), ou 20 (by decide)]
    have t21 : τ 21 = σ1 21 := by rw [b2 21 (by decide), ou 21 (by decide)]
    have t54 : τ 54 = σ1 54 := by rw [b2 54 (by decide), ou 54 (by decide)]
    have t76 : τ 76 = σ1 76 := by rw [b2 76 (by decide), ou 76 (by decide)]
    have oth : Oth τ σ := ⟨fun q hq => by
        by_cases h : q < 110
        · exact low q h (by omega) (by omega) (by omega) (by omega) (by omega)
        · rw [b2 q (by omega), ou q (by omega), a2 q (by omega) (by omega) (by omega) (by omega)], fun j _ => by rw [low 0 (by decide) (by decide) (by decide) (by decide) (by decide) (by decide)], by rw [t20, a6 3 (by decide) (by decide)], fun j _ j2 _ _ _ => t86 j j2⟩
    have bk := oth.bk hp h57 h60
    have leL : ∀ L, 2 ≤ L → L < 22 → LE τ L σ L := fun L l1 l2 => LE.tr (b := υ) (B := L) ⟨by rw [b3, mup1_ne (by omega)], by rw [b4, mup1_ne (by omega)], by rw [b5, mup1_ne (by omega)], fun q q1 q2 j _ => (b6 q q1 q2).1 _ (by omega), fun j _ _ => b7 _ (by omega)⟩ (LE.of eLay)
    have le0 : LE τ 0 σ S := LE.tr (b := υ) (B := S) ⟨by rw [b3, mup1_at rfl], by rw [b4, mup1_at rfl], by rw [b5, mup1_at rfl], fun q q1 q2 j hj => (b6 q q1 q2).2 j hj, fun j _ hj => b8 j hj⟩ (LE.of eLay)
    refine ⟨1, σ1, τ, p, s, ?_, ?_, r.oth (by omega) oth ?_ ⟨?_, ?_, ?_, ?_⟩ ⟨?_, ?_, ?_, ?_, fun i hi => ?_⟩⟩
    · exact e_t (by rw [mw_id (by omega) (by omega)]; exact c) (e_mob a1 (e_t (by decide) rfl))
    · rw [e86, u2]
      refine e_t (by rw [mw_id (by omega) (by omega)]; exact c) (e_mem ?_)
      rw [← eu, show υ 86 53 = σ 54 4 - 1 by rw [eu, mup_at rfl rfl]]
      have sl : g_X12_slot F (σ 54 4 - 1) υ = some ((S : Int), υ) := by
        unfold g_X12_slot
        rw [show υ 86 52 = σ 86 52 by rw [eu, mup_ne (by decide), e86], mw_id (z := σ 86 52 + (σ 54 4 - 1)) (by omega) (by omega), mw_id (z := 20) (by decide) (by decide), mtmod (by omega), show 2 + (σ 86 52 + (σ 54 4 - 1)) % 20 = (S : Int) by omega]
        exact e_f (by decide) rfl
      exact e_mob sl (e_mob b1 (e_t (by decide) rfl))
    · unfold RS at *
      rw [t86 54 (by decide), low 0 (by decide) (by decide) (by decide) (by decide) (by decide) (by decide)]
      exact hs4
    · rw [t20, t54, t76, a4, a5, a7]
      exact u0.move (by omega) h11.2 bk (fun j hj => by rw [t21]; exact a3 j hj) le0 (fun j hj => a8 j hj)
    · exact bk.2.2.1.2
    · exact bk.2.2.2.1.2
    · rw [t86 62 (by decide)]; exact h62
    · rw [t54, a10]; omega
    · rw [t53, t54, a10]
    · rw [t54, a9]; omega
    · rw [t86 52 (by decide)]; exact u4
    · rw [t54, a10] at hi
      rw [t54, a9, a10, t86 52 (by decide)]
      have old := u5 (i + 1) (by omega)
      have eR' : (((k : Int) - 1 - (i : Int)) % 20).toNat = ((σ 54 3 - 1 - ((i + 1 : Nat) : Int)) % 20).toNat := by omega
      have eL' : ((σ 86 52 + (σ 54 4 - 1) - 1 - (i : Int)) % 20).toNat = ((σ 86 52 + σ 54 4 - 1 - ((i + 1 : Nat) : Int)) % 20).toNat := by omega
      rw [eR', eL']
      have row : τ (56 + ((σ 54 3 - 1 - ((i + 1 : Nat) : Int)) % 20).toNat) = σ (56 + ((σ 54 3 - 1 - ((i + 1 : Nat) : Int)) % 20).toNat) := low _ (by omega) (by omega) (by omega) (by omega) (by omega) (by omega)
      rw [row]
      exact old.move (by omega) h11.2 bk (fun j _ => by rw [row]) (leL _ (by omega) (by omega)) (fun _ _ => rfl)
