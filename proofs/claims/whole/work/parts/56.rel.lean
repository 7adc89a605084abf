/-! LAYER 2: class and reference stand alike -/
abbrev i32 (z : Int) : Prop := -2147483648 ≤ z ∧ z ≤ 2147483647
/-- one state of the floor: the class's row a, the reference's layer L -/
def SR (σ : mMem) (p a L : Nat) (step lamp T : Int) (ring : Nat → Int) (N : Int) : Prop := (∀ k, k < (σ p 11).toNat → BEq (cB σ a k) (rB σ L k) ∧ BRr (σ p 9) (σ p 10) σ L k) ∧ (σ 110 L = step ∧ 0 ≤ step ∧ step ≤ 999) ∧ (σ 111 L = lamp ∧ 0 ≤ lamp ∧ lamp ≤ 9) ∧ KRel σ L T ring ∧ T ≤ 600 * N
def hw (L : Nat → Int) : Nat → Int
  | 0 => 0
  | n + 1 => 256 * hw L n + (L n + 96)
/-- a name, five bits a letter, and eight -/
def NmR (a w : Int) : Prop := ∃ (n : Nat) (L : Nat → Int), (1 ≤ n ∧ n ≤ 6) ∧ (∀ i, i < n → 1 ≤ L i ∧ L i ≤ 26) ∧ (∀ i, n ≤ i → L i = 0) ∧ a = L 0 * 33554432 + L 1 * 1048576 + L 2 * 32768 + L 3 * 1024 + L 4 * 32 + L 5 ∧ w = hw L n
def RT (σ : mMem) : Prop := σ 86 1 = σ 1 1 ∧ (0 ≤ σ 1 1 ∧ σ 1 1 ≤ 1600) ∧ ∀ j : Nat, (j : Int) < σ 1 1 → σ 87 j = σ 2 j ∧ 0 ≤ σ 2 j ∧ σ 2 j ≤ 255
def RF (σ : mMem) (N : Int) : Prop := ∀ j, j < 6 → σ 109 j = σ 85 j ∧ 0 ≤ σ 85 j ∧ σ 85 j ≤ N
def RX (σ : mMem) : Prop := (σ 86 10 = σ 0 10 ∧ sml (σ 0 10)) ∧ σ 86 11 = σ 0 11 ∧ sml (σ 0 11)
def RS (σ : mMem) : Prop := σ 86 54 = σ 0 12 ∧ 0 ≤ σ 0 12 ∧ σ 0 12 ≤ 2147483647
def RP (σ : mMem) (p s : Nat) : Prop := ((p = 3 ∧ s = 8) ∨ (p = 8 ∧ s = 3)) ∧ (σ 0 8 = (p : Int) ∧ σ 0 9 = (s : Int) ∧ σ 20 3 = (p : Int)) ∧ PlC σ p ∧ PlR σ p σ ∧ (σ 97 (3 * (σ 86 13).toNat + 2) = σ p 14 ∧ 0 ≤ σ p 14 ∧ σ p 14 ≤ 100) ∧ ∀ k, k < (σ p 11).toNat → NmR (σ (p + 2) k) (σ 102 (6 * (σ 86 13).toNat + k))
def RN (σ : mMem) (p : Nat) (N : Int) : Prop := SR σ p 21 0 (σ 20 4) (σ 20 5) (σ 54 2) (σ 76) N ∧ σ 86 57 = -1 ∧ σ 86 60 = -1 ∧ σ 86 62 = 0
def RU (σ : mMem) (p : Nat) (N : Int) : Prop := (0 ≤ σ 54 4 ∧ σ 54 4 ≤ 20) ∧ σ 86 53 = σ 54 4 ∧ (0 ≤ σ 54 3 ∧ σ 54 3 ≤ 19) ∧ (0 ≤ σ 86 52 ∧ σ 86 52 ≤ 19) ∧ ∀ i : Nat, (i : Int) < σ 54 4 → SR σ p (56 + ((σ 54 3 - 1 - i) % 20).toNat) (2 + ((σ 86 52 + σ 54 4 - 1 - i) % 20).toNat) (σ (56 + ((σ 54 3 - 1 - i) % 20).toNat) 60) (σ (56 + ((σ 54 3 - 1 - i) % 20).toNat) 61) (σ (56 + ((σ 54 3 - 1 - i) % 20).toNat) 62) (fun j => σ (56 + ((σ 54 3 - 1 - i) % 20).toNat) (63 + j)) N
def RW (σ : mMem) : Prop := σ 86 66 = σ 35 3 ∧ (0 ≤ σ 35 3 ∧ σ 35 3 ≤ 16) ∧ ∀ k : Nat, (k : Int) < σ 35 3 → (σ 122 k = σ 36 (3 * k) ∧ 0 ≤ σ 36 (3 * k) ∧ σ 36 (3 * k) ≤ 40) ∧ σ 123 k = 9 * σ 36 (3 * k + 2) + σ 36 (3 * k + 1) ∧ (0 ≤ σ 36 (3 * k + 1) ∧ σ 36 (3 * k + 1) ≤ 8) ∧ 0 ≤ σ 36 (3 * k + 2) ∧ σ 36 (3 * k + 2) ≤ 8
def RO (σ : mMem) : Prop := σ 86 71 = σ 77 1 ∧ (0 ≤ σ 77 1 ∧ σ 77 1 ≤ 52) ∧ ∀ j : Nat, (j : Int) < σ 77 1 → σ 125 j = σ 78 j ∧ sml (σ 78 j)
def Rel (σ : mMem) (p s : Nat) (N : Int) : Prop := RT σ ∧ RF σ N ∧ RX σ ∧ RS σ ∧ RP σ p s ∧ RN σ p N ∧ RU σ p N ∧ RW σ ∧ RO σ
/-- what it reads: whole rows, parts of rows -/
abbrev Rw (q : Nat) : Prop := (3 ≤ q ∧ q ≤ 12) ∨ (56 ≤ q ∧ q ≤ 76) ∨ (88 ≤ q ∧ q ≤ 102) ∨ q = 21 ∨ q = 54
abbrev Rd (q j : Nat) : Prop := Rw q ∨ ((q = 110 ∨ q = 111 ∨ q = 117) ∧ j ≠ 1) ∨ ((112 ≤ q ∧ q ≤ 116) ∧ (j < 6 ∨ 12 ≤ j)) ∨ (q = 118 ∧ (j < 240 ∨ 480 ≤ j)) ∨ (q = 0 ∧ (j = 8 ∨ j = 9)) ∨ (q = 20 ∧ (j = 3 ∨ j = 4 ∨ j = 5)) ∨ (q = 86 ∧ (j = 13 ∨ j = 52 ∨ j = 53 ∨ j = 57 ∨ j = 60 ∨ j = 62))
/-- what the small parts of it read -/
abbrev Rs (q j : Nat) : Prop := q = 2 ∨ q = 36 ∨ q = 78 ∨ q = 85 ∨ q = 87 ∨ q = 109 ∨ q = 122 ∨ q = 123 ∨ q = 125 ∨ (q = 1 ∧ j = 1) ∨ (q = 0 ∧ (j = 10 ∨ j = 11 ∨ j = 12)) ∨ (q = 35 ∧ j = 3) ∨ (q = 77 ∧ j = 1) ∨ (q = 86 ∧ (j = 1 ∨ j = 10 ∨ j = 11 ∨ j = 54 ∨ j = 66 ∨ j = 71))
theorem Rd_L {q j : Nat} (h : q = 110 ∨ q = 111 ∨ q = 117) (hj : j ≠ 1) : Rd q j := Or.inr (Or.inl ⟨h, hj⟩)
theorem Rd_b {q j : Nat} (h : 112 ≤ q ∧ q ≤ 116) (hj : j < 6 ∨ 12 ≤ j) : Rd q j := Or.inr (Or.inr (Or.inl ⟨h, hj⟩))
theorem Rd_k {j : Nat} (hj : j < 240 ∨ 480 ≤ j) : Rd 118 j := Or.inr (Or.inr (Or.inr (Or.inl ⟨rfl, hj⟩)))
theorem rB_p {τ τ' : mMem} {v k : Nat} (h57 : τ 86 57 = -1) (h57' : τ' 86 57 = -1) (h60 : τ 86 60 = -1) (h60' : τ' 86 60 = -1) (h13 : τ' 86 13 = τ 86 13) (h94 : τ' 94 = τ 94) (h95 : τ' 95 = τ 95) (h96 : τ' 96 = τ 96) (hq : ∀ q, 112 ≤ q → q ≤ 116 → τ' q (6 * v + k) = τ q (6 * v + k)) : rB τ' v k = rB τ v k := by
  funext f
  unfold rB
  have hk : ¬ (k : Int) = -1 := by omega
  rw [h57, h57', h60, h60', h13, h94, h95, h96, hq 112 (by omega) (by omega), hq 113 (by omega) (by omega), hq 114 (by omega) (by omega), hq 115 (by omega) (by omega), hq 116 (by omega) (by omega)]
  simp only [if_neg hk]
theorem rd_row {σ σ' : mMem} (h : ∀ q j, Rd q j → σ' q j = σ q j) (q : Nat) (hq : Rw q) : σ' q = σ q := by
  funext j
  exact h q j (Or.inl hq)
theorem SR.same {σ σ' : mMem} {p : Nat} {N N' : Int} (h : ∀ q j, Rd q j → σ' q j = σ q j) (hN : N ≤ N') {a L : Nat} {step lamp T : Int} {ring : Nat → Int} (hp : p = 3 ∨ p = 8) (hn : σ p 11 ≤ 6) (ha : a = 21 ∨ (56 ≤ a ∧ a ≤ 75)) (hL : L ≠ 1) (h57 : σ 86 57 = -1) (h60 : σ 86 60 = -1) (hs : SR σ p a L step lamp T ring N) : SR σ' p a L step lamp T ring N' := by
  have ep : σ' p = σ p := rd_row h p (Or.inl (by omega))
  have ea : σ' a = σ a := rd_row h a (by omega)
  obtain ⟨s1, s2, s3, s4, s5⟩ := hs
  have er : ∀ k, k < 6 → rB σ' L k = rB σ L k := fun k hk => rB_p h57 (by rw [h 86 57 (by decide)]; exact h57) h60 (by rw [h 86 60 (by decide)]; exact h60) (h 86 13 (by decide)) (rd_row h 94 (by decide)) (rd_row h 95 (by decide)) (rd_row h 96 (by decide)) (fun q q1 q2 => h q _ (Rd_b ⟨q1, q2⟩ (by omega)))
  refine ⟨fun k hk => ?_, ?_, ?_, ?_, by omega⟩
  · rw [ep] at hk
    have k1 := s1 k hk
    unfold BRr at *
    rw [ep, er k (by omega), h 112 (6 * L + k) (Rd_b (by decide) (by omega))]
    refine ⟨fun g hg => ?_, k1.2⟩
    rw [← k1.1 g hg]
    dsimp only [cB]
    rw [ea]
  · rw [h 110 L (Rd_L (by decide) hL)]; exact s2
  · rw [h 111 L (Rd_L (by decide) hL)]; exact s3
  · exact s4.congr (h 117 L (Rd_L (by decide) hL)) (fun j j1 j2 => h 118 j (Rd_k (by omega)))
theorem RT.of {σ σ' : mMem} (r : RT σ) (h1 : σ' 1 1 = σ 1 1) (h2 : σ' 2 = σ 2) (h3 : σ' 87 = σ 87) (h4 : σ' 86 1 = σ 86 1) : RT σ' := by
  unfold RT at *
  rw [h1, h2, h3, h4]
  exact r
theorem RF.of {σ σ' : mMem} {N N' : Int} (r : RF σ N) (hN : N ≤ N') (h1 : σ' 85 = σ 85) (h2 : σ' 109 = σ 109) : RF σ' N' := by
  unfold RF at *
  rw [h1, h2]
  intro j hj
  have := r j hj
  exact ⟨this.1, this.2.1, by omega⟩
theorem RX.of {σ σ' : mMem} (r : RX σ) (h1 : σ' 0 10 = σ 0 10) (h2 : σ' 0 11 = σ 0 11) (h3 : σ' 86 10 = σ 86 10) (h4 : σ' 86 11 = σ 86 11) : RX σ' := by
  unfold RX at *
  rw [h1, h2, h3, h4]
  exact r
theorem RS.of {σ σ' : mMem} (r : RS σ) (h1 : σ' 0 12 = σ 0 12) (h2 : σ' 86 54 = σ 86 54) : RS σ' := by
  unfold RS at *
  rw [h1, h2]
  exact r
theorem RW.of {σ σ' : mMem} (r : RW σ) (h1 : σ' 35 3 = σ 35 3) (h2 : σ' 36 = σ 36) (h3 : σ' 86 66 = σ 86 66) (h4 : σ' 122 = σ 122) (h5 : σ' 123 = σ 123) : RW σ' := by
  unfold RW at *
  rw [h1, h2, h3, h4, h5]
  exact r
theorem RO.of {σ σ' : mMem} (r : RO σ) (h1 : σ' 77 1 = σ 77 1) (h2 : σ' 78 = σ 78) (h3 : σ' 86 71 = σ 86 71) (h4 : σ' 125 = σ 125) : RO σ' := by
  unfold RO at *
  rw [h1, h2, h3, h4]
  exact r
theorem PlR.rows {π π' τ : mMem} {p : Nat} (h0 : π' p = π p) (h1 : π' (p + 1) = π (p + 1)) (h4 : π' (p + 4) = π (p + 4)) (hR : PlR π p τ) : PlR π' p τ := by
  unfold PlR FmR at *
  rw [h0, h1, h4]
  exact hR
theorem RP.same {σ σ' : mMem} {p s : Nat} (h : ∀ q j, Rd q j → σ' q j = σ q j) (r : RP σ p s) : RP σ' p s := by
  obtain ⟨r1, r2, r3, r4, r5, r6⟩ := r
  have e0 : σ' p = σ p := rd_row h p (Or.inl (by omega))
  have e1 : σ' (p + 1) = σ (p + 1) := rd_row h (p + 1) (Or.inl (by omega))
  have e2 : σ' (p + 2) = σ (p + 2) := rd_row h (p + 2) (Or.inl (by omega))
  have e4 : σ' (p + 4) = σ (p + 4) := rd_row h (p + 4) (Or.inl (by omega))
  have e13 : σ' 86 13 = σ 86 13 := h 86 13 (by decide)
  refine ⟨r1, ?_, r3.same e0 e1 e4, (r4.same (fun q q1 q2 => rd_row h q (Or.inr (Or.inr (Or.inl (by omega))))) e13).rows e0 e1 e4, ?_, ?_⟩
  · rw [h 0 8 (by decide), h 0 9 (by decide), h 20 3 (by decide)]; exact r2
  · rw [e13, e0, rd_row h 97 (by decide)]; exact r5
  · rw [e13, e0, e2, rd_row h 102 (by decide)]; exact r6
theorem RN.same {σ σ' : mMem} {p : Nat} {N N' : Int} (h : ∀ q j, Rd q j → σ' q j = σ q j) (hN : N ≤ N') (hp : p = 3 ∨ p = 8) (hn : σ p 11 ≤ 6) (r : RN σ p N) : RN σ' p N' := by
  obtain ⟨r1, r2, r3, r4⟩ := r
  unfold RN
  rw [h 20 4 (by decide), h 20 5 (by decide), rd_row h 54 (by decide), rd_row h 76 (by decide), h 86 57 (by decide), h 86 60 (by decide), h 86 62 (by decide)]
  exact ⟨r1.same h hN hp hn (Or.inl rfl) (by decide) r2 r3, r2, r3, r4⟩
theorem RU.same {σ σ' : mMem} {p : Nat} {N N' : Int} (h : ∀ q j, Rd q j → σ' q j = σ q j) (hN : N ≤ N') (hp : p = 3 ∨ p = 8) (hn : σ p 11 ≤ 6) (h57 : σ 86 57 = -1) (h60 : σ 86 60 = -1) (r : RU σ p N) : RU σ' p N' := by
  obtain ⟨r1, r2, r3, r4, r5⟩ := r
  unfold RU
  rw [rd_row h 54 (by decide), h 86 53 (by decide), h 86 52 (by decide)]
  refine ⟨r1, r2, r3, r4, fun i hi => ?_⟩
  have er : σ' (56 + ((σ 54 3 - 1 - i) % 20).toNat) = σ (56 + ((σ 54 3 - 1 - i) % 20).toNat) := rd_row h _ (Or.inr (Or.inl (by omega)))
  rw [er]
  exact (r5 i hi).same h hN hp hn (by omega) (by omega) h57 h60
/-- where the great parts haven't changed -/
theorem Rel.upd {σ σ' : mMem} {p s : Nat} {N N' : Int} (r : Rel σ p s N) (hN : N ≤ N') (h : ∀ q j, Rd q j → σ' q j = σ q j) (hT : RT σ') (hF : RF σ' N') (hX : RX σ') (hS : RS σ') (hW : RW σ') (hO : RO σ') : Rel σ' p s N' := by
  obtain ⟨r1, r2, r3, r4, r5, r6, r7, r8, r9⟩ := r
  have hp : p = 3 ∨ p = 8 := by have := r5.1; omega
  have hn : σ p 11 ≤ 6 := r5.2.2.1.2.2.1.2
  exact ⟨hT, hF, hX, hS, r5.same h, r6.same h hN hp hn, r7.same h hN hp hn r6.2.1 r6.2.2.1, hW, hO⟩
/-- where nothing that it reads has changed, they stand alike still -/
theorem Rel.same {σ σ' : mMem} {p s : Nat} {N N' : Int} (r : Rel σ p s N) (hN : N ≤ N') (h : ∀ q j, Rd q j → σ' q j = σ q j) (h2 : ∀ q j, Rs q j → σ' q j = σ q j) : Rel σ' p s N' := by
  have e : ∀ q, (q = 2 ∨ q = 36 ∨ q = 78 ∨ q = 85 ∨ q = 87 ∨ q = 109 ∨ q = 122 ∨ q = 123 ∨ q = 125) → σ' q = σ q := by
    intro q hq
    funext j
    refine h2 q j ?_
    rcases hq with e | e | e | e | e | e | e | e | e <;> rw [e]
    · exact Or.inl rfl
    · exact Or.inr (Or.inl rfl)
    · exact Or.inr (Or.inr (Or.inl rfl))
    · exact Or.inr (Or.inr (Or.inr (Or.inl rfl)))
    · exact Or.inr (Or.inr (Or.inr (Or.inr (Or.inl rfl))))
    · exact Or.inr (Or.inr (Or.inr (Or.inr (Or.inr (Or.inl rfl)))))
    · exact Or.inr (Or.inr (Or.inr (Or.inr (Or.inr (Or.inr (Or.inl rfl))))))
    · exact Or.inr (Or.inr (Or.inr (Or.inr (Or.inr (Or.inr (Or.inr (Or.inl rfl)))))))
    · exact Or.inr (Or.inr (Or.inr (Or.inr (Or.inr (Or.inr (Or.inr (Or.inr (Or.inl rfl))))))))
  refine r.upd hN h (r.1.of (h2 1 1 (by decide)) (e 2 (by decide)) (e 87 (by decide)) (h2 86 1 (by decide))) (r.2.1.of hN (e 85 (by decide)) (e 109 (by decide))) (r.2.2.1.of (h2 0 10 (by decide)) (h2 0 11 (by decide)) (h2 86 10 (by decide)) (h2 86 11 (by decide))) (r.2.2.2.1.of (h2 0 12 (by decide)) (h2 86 54 (by decide)))
    (r.2.2.2.2.2.2.2.1.of (h2 35 3 (by decide)) (e 36 (by decide)) (h2 86 66 (by decide)) (e 122 (by decide)) (e 123 (by decide))) (r.2.2.2.2.2.2.2.2.of (h2 77 1 (by decide)) (e 78 (by decide)) (h2 86 71 (by decide)) (e 125 (by decide)))
