/-! LAYER 2: kitchen: a text that is taken: the new plan -/
theorem fo_C {ω : mMem} {s i a w : Nat} {m : Int} (h : FoK ω ω s i a w m) (h4 : ω s 4 ≤ 1600) : FmC (ω (s + 4)) (ω s a) (ω s (a + 1)) m ∧ sml (ω s a) ∧ sml (ω s (a + 1)) := by
  unfold FoK at h
  unfold FmC
  rcases h with ⟨h1, h2, h3⟩ | ⟨⟨h1, h2, h3⟩, h5, h6, h7, h8⟩
  · exact ⟨Or.inl (by omega), ⟨by omega, by omega⟩, ⟨by omega, by omega⟩⟩
  · exact ⟨Or.inr ⟨h1, h2, by omega, h7, h8⟩, ⟨by omega, by omega⟩, ⟨by omega, by omega⟩⟩
theorem fo_R {ω : mMem} {s i a w : Nat} {m : Int} (h : FoK ω ω s i a w m) (en : (ω 86 13).toNat = i) (cd : ∀ j : Nat, (j : Int) < ω s 4 → srt (ω 100 (1600 * i + j)) (ω 101 (1600 * i + j)) ∧ trc (ω 100 (1600 * i + j)) (ω 101 (1600 * i + j)) = ω (s + 4) j) : FmR ω s ω a w := by
  unfold FoK at h
  unfold FmR
  rw [en]
  rcases h with ⟨h1, h2, h3⟩ | ⟨⟨h1, h2, h3⟩, h5, h6, h7, h8⟩
  · exact Or.inl ⟨by omega, h3⟩
  · exact Or.inr ⟨h2, h5, h6, fun j _ j2 => cd j (by omega)⟩
theorem pl_ok {ω : mMem} {s i : Nat} (hi : i = 0 ∨ i = 1) (e13 : ω 86 13 = (i : Int)) (f : FlK ω ω s i) (g : BsK ω ω s i) (t : TdK ω ω s i) (h4 : ω s 4 ≤ 1600) (cd : ∀ j : Nat, (j : Int) < ω s 4 → srt (ω 100 (1600 * i + j)) (ω 101 (1600 * i + j)) ∧ trc (ω 100 (1600 * i + j)) (ω 101 (1600 * i + j)) = ω (s + 4) j) (fa : FoK ω ω s i 5 0 5) (fb : FoK ω ω s i 7 1 7) : PlC ω s ∧ PlR ω s ω ∧ (ω 97 (3 * (ω 86 13).toNat + 2) = ω s 14 ∧ 0 ≤ ω s 14 ∧ ω s 14 ≤ 100) ∧ ∀ k, k < (ω s 11).toNat → NmR (ω (s + 2) k) (ω 102 (6 * (ω 86 13).toNat + k)) := by
  have en : (ω 86 13).toNat = i := by rw [e13]; exact Int.toNat_natCast i
  obtain ⟨f1, f2, f3⟩ := f
  obtain ⟨g1, g2, g3⟩ := g
  have ca := fo_C fa h4
  have cb := fo_C fb h4
  refine ⟨⟨⟨by omega, by omega⟩, ⟨by omega, by omega⟩, ⟨by omega, by omega⟩, fun j hj => (f3 j hj).2, ⟨ca.2.1, ca.2.2, cb.2.1, cb.2.2⟩, ca.1, cb.1⟩, ⟨by rw [e13]; omega, by rw [en]; exact f1.1.symm, by rw [en]; exact f2.1.symm, by rw [en]; exact g1.1.symm, fun j hj => by rw [en]; exact (f3 j hj).1, fo_R fa en cd, fo_R fb en cd⟩, by rw [en]; exact t.2.2, fun k hk => by rw [en]; exact (g2 k (by omega)).1⟩
theorem bx_ok {ω : mMem} {s i k : Nat} (hs : s = 3 ∨ s = 8) (e13 : ω 86 13 = (i : Int)) (f : FlK ω ω s i) (b : BxK ω ω s i k) (h12 : 0 ≤ ω s 12 ∧ ω s 12 ≤ 999) (h57 : ω 86 57 = -1) (h60 : ω 86 60 = -1) (h3 : ω 21 (10 * k + 3) = ω s 12) (hr : ∀ g, g < 9 → g ≠ 3 → ω 21 (10 * k + g) = ω (s + 3) (10 * k + g)) (hb : ω 112 k = ω 92 (6 * i + k) ∧ ω 113 k = ω 93 (6 * i + k) ∧ ω 114 k = ω s 12 ∧ ω 115 k = 0 ∧ ω 116 k = 0) : BEq (cB ω 21 k) (rB ω 0 k) ∧ BRr (ω s 9) (ω s 10) ω 0 k := by
  have en : (ω 86 13).toNat = i := by rw [e13]; exact Int.toNat_natCast i
  obtain ⟨-, b2, b3, b4, b5, b6, b7, b8, b9⟩ := b
  obtain ⟨⟨-, f1, f2⟩, ⟨-, f3, f4⟩, -⟩ := f
  obtain ⟨q1, q2, q3, q4, q5⟩ := hb
  have z : 6 * 0 + k = k := by omega
  have nk : ¬ (k : Int) = -1 := by omega
  have r0 : rB ω 0 k 0 = ω (s + 3) (10 * k) := by
    show ω 112 (6 * 0 + k) % 9 = _
    rw [z, q1, b2]; omega
  have r1 : rB ω 0 k 1 = ω (s + 3) (10 * k + 1) := by
    show ω 112 (6 * 0 + k) / 9 = _
    rw [z, q1, b2]; omega
  have r2 : rB ω 0 k 2 = ω (s + 3) (10 * k + 2) := by
    show ω 113 (6 * 0 + k) = _
    rw [z, q2, b4.1]
  have r3 : rB ω 0 k 3 = ω s 12 := by
    show ω 114 (6 * 0 + k) = _
    rw [z, q3]
  have r4 : rB ω 0 k 4 = 0 := by
    show ω 115 (6 * 0 + k) = _
    rw [z, q4]
  have r5 : rB ω 0 k 5 = ω (s + 3) (10 * k + 5) := by
    show (if (k : Int) = ω 86 57 then ω 86 58 else ω 94 (6 * (ω 86 13).toNat + k)) = _
    rw [h57, if_neg nk, en, b5.1]
  have r6 : rB ω 0 k 6 = ω (s + 3) (10 * k + 6) := by
    show (if (k : Int) = ω 86 57 then ω 86 59 else ω 95 (6 * (ω 86 13).toNat + k)) = _
    rw [h57, if_neg nk, en, b6.1]
  have r7 : rB ω 0 k 7 = ω (s + 3) (10 * k + 7) := by
    show (if (k : Int) = ω 86 60 then ω 86 61 else ω 96 (6 * (ω 86 13).toNat + k)) = _
    rw [h60, if_neg nk, en, b7.1]
  have r8 : rB ω 0 k 8 = 0 := by
    show ω 116 (6 * 0 + k) = _
    rw [z, q5]
  refine ⟨fun g hg => ?_, ⟨by rw [z, q1, b2]; omega, ?_⟩⟩
  · show ω 21 (10 * k + g) = _
    obtain rfl | rfl | rfl | rfl | rfl | rfl | rfl | rfl | rfl : g = 0 ∨ g = 1 ∨ g = 2 ∨ g = 3 ∨ g = 4 ∨ g = 5 ∨ g = 6 ∨ g = 7 ∨ g = 8 := by omega
    · rw [r0, hr 0 (by decide) (by decide)]
      rfl
    · rw [r1, hr 1 (by decide) (by decide)]
    · rw [r2, hr 2 (by decide) (by decide)]
    · rw [r3, h3]
    · rw [r4, hr 4 (by decide) (by decide), b8]
    · rw [r5, hr 5 (by decide) (by decide)]
    · rw [r6, hr 6 (by decide) (by decide)]
    · rw [r7, hr 7 (by decide) (by decide)]
    · rw [r8, hr 8 (by decide) (by decide), b9]
  · unfold BR
    rw [r0, r1, r2, r3, r4, r5, r6, r7, r8]
    exact ⟨b3, b4.2, h12, by decide, b5.2, b6.2, b7.2, by decide⟩
theorem new_rel {σ ω : mMem} {p s i : Nat} {N : Int} (r : Rel σ p s N) (hi : i = 0 ∨ i = 1) (e13 : ω 86 13 = (i : Int)) (f : FlK ω ω s i) (g : BsK ω ω s i) (t : TdK ω ω s i) (h4 : ω s 4 ≤ 1600) (cd : ∀ j : Nat, (j : Int) < ω s 4 → srt (ω 100 (1600 * i + j)) (ω 101 (1600 * i + j)) ∧ trc (ω 100 (1600 * i + j)) (ω 101 (1600 * i + j)) = ω (s + 4) j) (fa : FoK ω ω s i 5 0 5) (fb : FoK ω ω s i 7 1 7) (w0 : ω 0 8 = (s : Int) ∧ ω 0 9 = (p : Int) ∧ ω 0 12 = σ 0 12 ∧ ω 0 10 = 0 ∧ ω 0 11 = -1) (w86 : ω 86 1 = 0 ∧ ω 86 10 = 0 ∧ ω 86 11 = -1 ∧ ω 86 53 = 0 ∧ ω 86 66 = 0) (k86 : ∀ j, (j = 52 ∨ j = 54 ∨ j = 57 ∨ j = 60 ∨ j = 62 ∨ j = 71) → ω 86 j = σ 86 j) (w1 : ω 1 1 = 0) (w20 : ω 20 3 = (s : Int) ∧ ω 20 4 = 0 ∧ ω 20 5 = ω s 13) (w3 : ∀ k : Nat, (k : Int) < ω s 11 → ω 21 (10 * k + 3) = ω s 12) (w21 : ∀ k f : Nat, (k : Int) < ω s 11 → f < 9 → f ≠ 3 → ω 21 (10 * k + f) = ω (s + 3) (10 * k + f)) (w54 : ω 54 2 = 0 ∧ ω 54 3 = 0 ∧ ω 54 4 = 0) (w35 : ω 35 3 = 0) (kq : ∀ q, (q = 77 ∨ q = 78 ∨ q = 85 ∨ q = 109 ∨ q = 125) → ω q = σ q) (wL : ω 110 0 = 0 ∧ ω 111 0 = ω 97 (3 * i + 1) ∧ ω 117 0 = 0) (wb : ∀ k : Nat, k < 6 → ω 112 k = ω 92 (6 * i + k) ∧ ω 113 k = ω 93 (6 * i + k) ∧ ω 114 k = ω 97 (3 * i) ∧ ω 115 k = 0 ∧ ω 116 k = 0) : Rel ω s p (N + 1) := by
  obtain ⟨r1, r2, r3, r4, r5, r6, r7, r8, r9⟩ := r
  have hps := r5.1
  have hN : 0 ≤ N := by
    have a := r6.1.2.2.2.1.1
    have b := r6.1.2.2.2.2
    omega
  have pl := pl_ok hi e13 f g t h4 cd fa fb
  have h57 : ω 86 57 = -1 := by rw [k86 57 (by decide)]; exact r6.2.1
  have h60 : ω 86 60 = -1 := by rw [k86 60 (by decide)]; exact r6.2.2.1
  refine ⟨⟨by rw [w86.1, w1], by rw [w1]; decide, fun j hj => ?_⟩, r2.of (by omega) (kq 85 (by decide)) (kq 109 (by decide)), ⟨⟨by rw [w86.2.1, w0.2.2.2.1], by rw [w0.2.2.2.1]; decide⟩, by rw [w86.2.2.1, w0.2.2.2.2], by rw [w0.2.2.2.2]; decide⟩, r4.of w0.2.2.1 (k86 54 (by decide)), ⟨by omega, ⟨w0.1, w0.2.1, w20.1⟩, pl.1, pl.2.1, pl.2.2.1, pl.2.2.2⟩, ⟨⟨fun k hk => ?_, ?_, ?_, ?_, ?_⟩, h57, h60, by rw [k86 62 (by decide)]; exact r6.2.2.2⟩, ⟨by rw [w54.2.2]; decide, by rw [w54.2.2]; exact w86.2.2.2.1, by rw [w54.2.1]; decide, by rw [k86 52 (by decide)]; exact r7.2.2.2.1, fun j hj => ?_⟩, ⟨by rw [w35]; exact w86.2.2.2.2, by rw [w35]; decide, fun j hj => ?_⟩, r9.of (by rw [kq 77 (by decide)]) (kq 78 (by decide)) (k86 71 (by decide)) (kq 125 (by decide))⟩
  · rw [w1] at hj; omega
  · have hk' : (k : Int) < ω s 11 := by omega
    have k6 : k < 6 := by have := g.1.2.2; omega
    have b := wb k k6
    exact bx_ok (by omega) e13 f (g.2.1 k hk') t.1.2 h57 h60 (w3 k hk') (fun x x1 x2 => w21 k x hk' x1 x2) ⟨b.1, b.2.1, by rw [b.2.2.1, t.1.1], b.2.2.2⟩
  · rw [wL.1, w20.2.1]; decide
  · rw [wL.2.1, w20.2.2]; exact t.2.1
  · rw [w54.1]
    refine ⟨by decide, by rw [wL.2.2]; decide, fun j hj => ?_⟩
    have : min (60 : Int) 0 = 0 := by decide
    rw [this] at hj
    omega
  · rw [w54.1]; omega
  · rw [w54.2.2] at hj; omega
  · rw [w35] at hj; omega
