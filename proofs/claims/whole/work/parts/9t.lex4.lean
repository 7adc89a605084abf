/-! LAYER 2: kitchen, the words of the language -/
/-- the twenty-eight words of the language: five bits a letter; eight; their letters -/
def xOw : Nat → Int
  | 0 => 214416960
  | 1 => 93323264
  | 2 => 253944832
  | 3 => 83623936
  | 4 => 54525952
  | 5 => 773619712
  | 6 => 194169856
  | 7 => 50383488
  | 8 => 42108032
  | 9 => 76598272
  | 10 => 658675283
  | 11 => 250792960
  | 12 => 553358912
  | 13 => 404144128
  | 14 => 102367232
  | 15 => 408113152
  | 16 => 613655168
  | 17 => 445775872
  | 18 => 419024896
  | 19 => 658685952
  | 20 => 693713060
  | 21 => 308281344
  | 22 => 522190848
  | 23 => 48365568
  | 24 => 486146048
  | 25 => 46530560
  | 26 => 446103552
  | 27 => 438042624
  | _ => -1
def xOW : Nat → Int
  | 0 => 439905906546
  | 1 => 25209
  | 2 => 1735550329
  | 3 => 6451064
  | 4 => 24948
  | 5 => 7823737
  | 6 => 1702454643
  | 7 => 418497262196
  | 8 => 418363302244
  | 9 => 1651073395
  | 10 => 126943754547827
  | 11 => 1735353715
  | 12 => 482906432882
  | 13 => 1818324336
  | 14 => 6513012
  | 15 => 1818584692
  | 16 => 491394656372
  | 17 => 7170404
  | 18 => 1819243380
  | 19 => 1937007984
  | 20 => 128047779833188
  | 21 => 26982
  | 22 => 28530
  | 23 => 6385252
  | 24 => 7237492
  | 25 => 6384748
  | 26 => 7170414
  | 27 => 7168376
  | _ => -1

def Own (σ : mMem) : Prop := ∀ k, k < 28 → σ 15 k = xOw k
theorem xOw_rng : ∀ k : Fin 28, 0 ≤ xOw k.val ∧ xOw k.val ≤ 1000000000 := by decide
theorem xOw_inj : ∀ j k : Fin 28, xOw j.val = xOw k.val → j = k := by decide
/-- a word, marked: one of the language's or a name -/
def Mrk (σ : mMem) (i : Nat) (v : Int) : Prop := ((∀ k, k < 28 → ¬ xOw k = v) ∧ σ 16 i = 1 ∧ σ 18 i = v) ∨ (∃ k : Nat, k < 28 ∧ xOw k = v ∧ σ 16 i = 2 ∧ σ 18 i = (k : Int))
theorem c_mark {F i : Nat} {σ : mMem} (hF : 2000 ≤ F) (hi : i < 1600) (hO : Own σ) (hv : 0 ≤ σ 18 i ∧ σ 18 i ≤ 2000000000) (hk : 1 ≤ σ 16 i ∧ σ 16 i ≤ 5) : ∃ σ', g_X8_markOwnWord F (i : Int) σ = some (0, σ') ∧ (∀ q, q ≠ 16 → q ≠ 18 → σ' q = σ q) ∧ (∀ j, j ≠ i → σ' 16 j = σ 16 j ∧ σ' 18 j = σ 18 j) ∧ (σ 16 i = 1 → Mrk σ' i (σ 18 i)) ∧ (¬ σ 16 i = 1 → σ' = σ) := by
  have head : ∀ X, (if σ 16 i = 1 then (g_X8_markOwnWord_h26 F F (i : Int) 0 σ) else (some (0, σ))) = X → g_X8_markOwnWord F (i : Int) σ = X := by
    intro X hX
    unfold g_X8_markOwnWord g_X8_markOwnWord_b23
    rw [mwN (by omega), mw_id (z := σ 16 i) (by omega) (by omega), mw1']
    exact e_f (by rw [mw_id (by omega) (by omega)]; omega) (e_f (by rw [mw_id (by omega) (by omega), mw_id (by omega) (by omega)]; omega) (e_t (mwR (by omega) (by decide)) hX))
  by_cases c : σ 16 i = 1
  · -- behind a hit nothing more happens
    have rest : ∀ (d k fuel : Nat) (μ : mMem), d + k = 28 → d < fuel → μ 16 i = 2 → g_X8_markOwnWord_h26 F fuel (i : Int) (k : Int) μ = some (0, μ) := by
      intro d
      induction d with
      | zero =>
        intro k fuel μ e1 e2 e3
        obtain ⟨f, rfl⟩ : ∃ f, fuel = f + 1 := ⟨fuel - 1, by omega⟩
        have : k = 28 := by omega
        subst this
        unfold g_X8_markOwnWord_h26
        exact e_t (by decide) rfl
      | succ d ih =>
        intro k fuel μ e1 e2 e3
        obtain ⟨f, rfl⟩ : ∃ f, fuel = f + 1 := ⟨fuel - 1, by omega⟩
        rw [← ih (k + 1) f μ (by omega) (by omega) e3]
        conv => lhs; unfold g_X8_markOwnWord_h26 g_X8_markOwnWord_b71
        rw [mwN (i := i) (by omega), e3, show ((k + 1 : Nat) : Int) = (k : Int) + 1 by omega]
        exact e_f (by rw [mw_id (by omega) (by omega), mw_id (by omega) (by omega)]; omega) (e_t (mwR (by omega) (by decide)) (e_t (by decide) rfl))
    have key : ∀ (d k fuel : Nat), d + k = 28 → d < fuel → (∀ j, j < k → ¬ xOw j = σ 18 i) → ∃ σ', g_X8_markOwnWord_h26 F fuel (i : Int) (k : Int) σ = some (0, σ') ∧ (∀ q, q ≠ 16 → q ≠ 18 → σ' q = σ q) ∧ (∀ j, j ≠ i → σ' 16 j = σ 16 j ∧ σ' 18 j = σ 18 j) ∧ Mrk σ' i (σ 18 i) := by
      intro d
      induction d with
      | zero =>
        intro k fuel e1 e2 e3
        obtain ⟨f, rfl⟩ : ∃ f, fuel = f + 1 := ⟨fuel - 1, by omega⟩
        have : k = 28 := by omega
        subst this
        refine ⟨σ, ?_, fun _ _ _ => rfl, fun _ _ => ⟨rfl, rfl⟩, Or.inl ⟨e3, c, rfl⟩⟩
        unfold g_X8_markOwnWord_h26
        exact e_t (by decide) rfl
      | succ d ih =>
        intro k fuel e1 e2 e3
        obtain ⟨f, rfl⟩ : ∃ f, fuel = f + 1 := ⟨fuel - 1, by omega⟩
        have k28 : k < 28 := by omega
        have rg := xOw_rng ⟨k, k28⟩
        simp only at rg
        have hd : ∀ X, (if ¬ xOw k = σ 18 i then (g_X8_markOwnWord_h26 F f (i : Int) ((k : Int) + 1) σ) else (g_X8_markOwnWord_h26 F f (i : Int) ((k : Int) + 1) (mup (mup σ 16 i 2) 18 i (k : Int)))) = X → g_X8_markOwnWord_h26 F (f + 1) (i : Int) (k : Int) σ = X := by
          intro X hX
          conv => lhs; unfold g_X8_markOwnWord_h26 g_X8_markOwnWord_b71
          rw [mwN (i := i) (by omega), mwN (i := k) (by omega), c, hO k k28, mw_id (z := xOw k) (by omega) (by omega), mw_id (z := σ 18 i) (by omega) (by omega)]
          refine e_f (by rw [mw_id (by omega) (by omega), mw_id (by omega) (by omega)]; omega) (e_t (mwR (by omega) (by decide)) (e_f (fun e => e rfl) (e_t (mwR (by omega) (by decide)) (e_t (mwR (by omega) (by decide)) ?_))))
          by_cases ck : xOw k = σ 18 i
          · rw [if_neg (fun e => e ck)] at hX
            exact e_f (fun e => e ck) (e_t (mwR (by omega) (by decide)) (e_mem (e_t (mwR (by omega) (by decide)) (e_mem hX))))
          · rw [if_pos ck] at hX
            exact e_t ck hX
        by_cases ck : xOw k = σ 18 i
        · obtain ⟨σ', e'⟩ : ∃ y, y = mup (mup σ 16 i 2) 18 i (k : Int) := ⟨_, rfl⟩
          have r := rest d (k + 1) f σ' (by omega) (by omega) (by rw [e', mup_off (by decide), mup_at rfl rfl])
          refine ⟨σ', hd _ ((if_neg (fun e => e ck)).trans ?_), fun q q1 q2 => by rw [e', mup_off q2, mup_off q1], fun j hj => ⟨by rw [e', mup_off (by decide), mup_ne (by omega)], by rw [e', mup_ne (by omega), mup_off (by decide)]⟩, Or.inr ⟨k, k28, ck, by rw [e', mup_off (by decide), mup_at rfl rfl], by rw [e', mup_at rfl rfl]⟩⟩
          rw [← e', ← r, show ((k + 1 : Nat) : Int) = (k : Int) + 1 by omega]
        · obtain ⟨σ', t1, t2⟩ := ih (k + 1) f (by omega) (by omega) (fun j hj => by
            by_cases cj : j = k
            · rw [cj]; exact ck
            · exact e3 j (by omega))
          refine ⟨σ', hd _ ((if_pos ck).trans ?_), t2⟩
          rw [← t1, show ((k + 1 : Nat) : Int) = (k : Int) + 1 by omega]
    obtain ⟨σ', t1, t2, t3, t4⟩ := key 28 0 F (by omega) (by omega) (fun j hj => absurd hj (by omega))
    exact ⟨σ', head _ ((if_pos c).trans t1), t2, t3, fun _ => t4, fun e => absurd c e⟩
  · exact ⟨σ, head _ (if_neg c), fun _ _ _ => rfl, fun _ _ => ⟨rfl, rfl⟩, fun e => absurd e c, fun _ => rfl⟩
