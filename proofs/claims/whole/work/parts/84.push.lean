/-! LAYER 2: what is remembered -/
def LE (σ' : mMem) (L' : Nat) (σ : mMem) (L : Nat) : Prop := σ' 110 L' = σ 110 L ∧ σ' 111 L' = σ 111 L ∧ σ' 117 L' = σ 117 L ∧ (∀ q, 112 ≤ q → q ≤ 116 → ∀ k, k < 6 → σ' q (6 * L' + k) = σ q (6 * L + k)) ∧ ∀ k : Nat, k < 240 → (k : Int) < 4 * σ 117 L → σ' 118 (240 * L' + k) = σ 118 (240 * L + k)
theorem LE.tr {a b c : mMem} {A B C : Nat} (h : LE a A b B) (g : LE b B c C) : LE a A c C :=
  ⟨h.1.trans g.1, h.2.1.trans g.2.1, h.2.2.1.trans g.2.2.1, fun q q1 q2 k hk => (h.2.2.2.1 q q1 q2 k hk).trans (g.2.2.2.1 q q1 q2 k hk), fun k k2 hk => (h.2.2.2.2 k k2 (by rw [g.2.2.1]; exact hk)).trans (g.2.2.2.2 k k2 hk)⟩
theorem LE.rfl' {a : mMem} {A : Nat} : LE a A a A := ⟨rfl, rfl, rfl, fun _ _ _ _ _ => rfl, fun _ _ _ => rfl⟩
theorem LE.of {a b : mMem} {A : Nat} (h : ∀ q, 110 ≤ q → q ≤ 118 → a q = b q) : LE a A b A :=
  ⟨by rw [h 110 (by decide) (by decide)], by rw [h 111 (by decide) (by decide)], by rw [h 117 (by decide) (by decide)], fun q q1 q2 k _ => by rw [h q (by omega) (by omega)], fun k _ _ => by rw [h 118 (by decide) (by decide)]⟩
/-- the plan and what stands in for it are as they were -/
def BK (σ' σ : mMem) (p : Nat) : Prop := σ' p = σ p ∧ σ' 86 13 = σ 86 13 ∧ (σ 86 57 = -1 ∧ σ' 86 57 = -1) ∧ (σ 86 60 = -1 ∧ σ' 86 60 = -1) ∧ σ' 94 = σ 94 ∧ σ' 95 = σ 95 ∧ σ' 96 = σ 96
theorem rB_pl {τ τ' : mMem} {v w k : Nat} (h57 : τ 86 57 = -1) (h57' : τ' 86 57 = -1) (h60 : τ 86 60 = -1) (h60' : τ' 86 60 = -1) (h13 : τ' 86 13 = τ 86 13) (h94 : τ' 94 = τ 94) (h95 : τ' 95 = τ 95) (h96 : τ' 96 = τ 96) (hq : ∀ q, 112 ≤ q → q ≤ 116 → τ' q (6 * w + k) = τ q (6 * v + k)) : rB τ' w k = rB τ v k := by
  funext f
  unfold rB
  have hk : ¬ (k : Int) = -1 := by omega
  rw [h57, h57', h60, h60', h13, h94, h95, h96, hq 112 (by omega) (by omega), hq 113 (by omega) (by omega), hq 114 (by omega) (by omega), hq 115 (by omega) (by omega), hq 116 (by omega) (by omega)]
  simp only [if_neg hk]
theorem KRel.ring {τ : mMem} {v : Nat} {T : Int} {ring ring' : Nat → Int} (h : KRel τ v T ring) (e : ∀ j, j < 60 → ring' j = ring j) : KRel τ v T ring' := by
  obtain ⟨h1, h2, h3⟩ := h
  refine ⟨h1, h2, fun i hi => ?_⟩
  rw [e _ (by omega)]
  exact h3 i hi
theorem SR.move {σ σ' : mMem} {p a a' L L' : Nat} {step lamp T : Int} {ring ring' : Nat → Int} {N N' : Int} (hs : SR σ p a L step lamp T ring N) (hN : N ≤ N') (hn : σ p 11 ≤ 6) (bk : BK σ' σ p) (ea : ∀ j, j < 60 → σ' a' j = σ a j) (le : LE σ' L' σ L) (eg : ∀ j, j < 60 → ring' j = ring j) : SR σ' p a' L' step lamp T ring' N' := by
  obtain ⟨s1, s2, s3, s4, s5⟩ := hs
  obtain ⟨k1, k2, k3, k4, k5, k6, k7⟩ := bk
  refine ⟨fun k hk => ?_, by rw [le.1]; exact s2, by rw [le.2.1]; exact s3, (s4.copy le.2.2.1 (fun k hk => le.2.2.2.2 k (by have := s4.2.1; omega) hk)).ring eg, by omega⟩
  rw [k1] at hk
  have := s1 k hk
  have er : rB σ' L' k = rB σ L k := rB_pl k3.1 k3.2 k4.1 k4.2 k2 k5 k6 k7 (fun q q1 q2 => le.2.2.2.1 q q1 q2 k (by omega))
  unfold BRr at *
  rw [k1, er, le.2.2.2.1 112 (by decide) (by decide) k (by omega)]
  refine ⟨fun g hg => ?_, this.2⟩
  rw [← this.1 g hg]
  exact ea (10 * k + g) (by omega)
/-- the class has remembered; the reference has -/
def PuC (σ' σ : mMem) : Prop := (∀ q, 56 ≤ q → q ≤ 75 → q ≠ 56 + (σ 54 3).toNat → σ' q = σ q) ∧ (∀ j, j < 60 → σ' (56 + (σ 54 3).toNat) j = σ 21 j) ∧ σ' (56 + (σ 54 3).toNat) 60 = σ 20 4 ∧ σ' (56 + (σ 54 3).toNat) 61 = σ 20 5 ∧ σ' (56 + (σ 54 3).toNat) 62 = σ 54 2 ∧ (∀ j, j < 60 → σ' (56 + (σ 54 3).toNat) (63 + j) = σ 76 j) ∧ σ' 54 3 = (σ 54 3 + 1) % 20 ∧ σ' 54 4 = min 20 (σ 54 4 + 1)
def PuR (σ' σ : mMem) : Prop := ∃ S : Nat, (2 ≤ S ∧ S < 22) ∧ LE σ' S σ 0 ∧ (∀ L, 2 ≤ L → L < 22 → L ≠ S → LE σ' L σ L) ∧ ((σ 86 53 = 20 ∧ σ' 86 52 = (σ 86 52 + 1) % 20 ∧ σ' 86 53 = 20 ∧ (S : Int) = 2 + σ 86 52) ∨ (σ 86 53 < 20 ∧ σ' 86 52 = σ 86 52 ∧ σ' 86 53 = σ 86 53 + 1 ∧ (S : Int) = 2 + (σ 86 52 + σ 86 53) % 20))
theorem PuC.aft {σ'' σ' σ : mMem} (h : PuC σ' σ) (e : ∀ q, 56 ≤ q → q ≤ 75 → σ'' q = σ' q) (e3 : σ'' 54 3 = σ' 54 3) (e4 : σ'' 54 4 = σ' 54 4) (h3 : 0 ≤ σ 54 3 ∧ σ 54 3 ≤ 19) : PuC σ'' σ := by
  unfold PuC at *
  rw [e (56 + (σ 54 3).toNat) (by omega) (by omega), e3, e4]
  exact ⟨fun q q1 q2 q3 => (e q q1 q2).trans (h.1 q q1 q2 q3), h.2⟩
theorem PuR.aft {σ'' σ' σ : mMem} (h : PuR σ' σ) (e : ∀ L, 2 ≤ L → L < 22 → LE σ'' L σ' L) (e2 : σ'' 86 52 = σ' 86 52) (e3 : σ'' 86 53 = σ' 86 53) : PuR σ'' σ := by
  obtain ⟨S, s1, s2, s3, s4⟩ := h
  refine ⟨S, s1, (e S s1.1 s1.2).tr s2, fun L l1 l2 l3 => (e L l1 l2).tr (s3 L l1 l2 l3), ?_⟩
  rw [e2, e3]
  exact s4
theorem PuR.pre {σ' σ1 σ : mMem} (h : PuR σ' σ1) (e : ∀ q, 110 ≤ q → q ≤ 118 → σ1 q = σ q) (e2 : σ1 86 = σ 86) : PuR σ' σ := by
  obtain ⟨S, s1, s2, s3, s4⟩ := h
  refine ⟨S, s1, s2.tr (LE.of e), fun L l1 l2 l3 => (s3 L l1 l2 l3).tr (LE.of e), ?_⟩
  rw [e2] at s4
  exact s4
theorem RU.push {σ σ' : mMem} {p : Nat} {N N' : Int} (r : RU σ p N) (hs : SR σ p 21 0 (σ 20 4) (σ 20 5) (σ 54 2) (σ 76) N) (hN : N ≤ N') (hn : σ p 11 ≤ 6) (bk : BK σ' σ p) (pc : PuC σ' σ) (pr : PuR σ' σ) : RU σ' p N' := by
  obtain ⟨r1, r2, r3, r4, r5⟩ := r
  obtain ⟨c1, c2, c3, c4, c5, c6, c7, c8⟩ := pc
  obtain ⟨S, s1, s2, s3, s4⟩ := pr
  refine ⟨by omega, by omega, by omega, by omega, fun i hi => ?_⟩
  by_cases c : i = 0
  · subst c
    have eR : ((σ' 54 3 - 1 - ((0 : Nat) : Int)) % 20).toNat = (σ 54 3).toNat := by omega
    have eS : 2 + ((σ' 86 52 + σ' 54 4 - 1 - ((0 : Nat) : Int)) % 20).toNat = S := by omega
    rw [eR, eS, c3, c4, c5]
    exact hs.move hN hn bk c2 s2 c6
  · have eR : ((σ' 54 3 - 1 - (i : Int)) % 20).toNat = ((σ 54 3 - 1 - ((i - 1 : Nat) : Int)) % 20).toNat := by omega
    have eS : ((σ' 86 52 + σ' 54 4 - 1 - (i : Int)) % 20).toNat = ((σ 86 52 + σ 54 4 - 1 - ((i - 1 : Nat) : Int)) % 20).toNat := by omega
    have old := r5 (i - 1) (by omega)
    rw [eR, eS]
    have row : σ' (56 + ((σ 54 3 - 1 - ((i - 1 : Nat) : Int)) % 20).toNat) = σ (56 + ((σ 54 3 - 1 - ((i - 1 : Nat) : Int)) % 20).toNat) := c1 _ (by omega) (by omega) (by omega)
    have lay : LE σ' (2 + ((σ 86 52 + σ 54 4 - 1 - ((i - 1 : Nat) : Int)) % 20).toNat) σ (2 + ((σ 86 52 + σ 54 4 - 1 - ((i - 1 : Nat) : Int)) % 20).toNat) := s3 _ (by omega) (by omega) (by omega)
    rw [row]
    exact old.move hN hn bk (fun j _ => by rw [row]) lay (fun _ _ => rfl)
