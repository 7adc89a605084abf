/-! LAYER 2: kitchen: one statement, both -/
theorem r_cnt1 {F : Nat} {τ τd : mMem} {fk : Int} (e8 : τ 86 8 = 0) (d1 : g_X12_blame F 6 (τ 86 4) τ = some (0, τd)) (d3 : τd 86 8 = fk) (hk : 1 ≤ fk ∧ fk ≤ 6) : g_X12_counts F 1 τ = some (0, τd) := by
  unfold g_X12_counts g_X12_counts_b21 g_X12_counts_b32 g_X12_counts_b44
  rw [e8]
  refine e_f (fun q => q (by decide)) (e_f (by decide) (e_mob d1 ?_))
  have n : ¬ mw (τd 86 8) = 0 := by rw [d3, mw_id (by omega) (by omega)]; omega
  exact e_t n (e_t n (e_t (by decide) rfl))
theorem FoK.rg {σ τ : mMem} {p i a w : Nat} {m : Int} (h : FoK σ τ p i a w m) (h4 : σ p 4 ≤ 1600) : (0 ≤ σ p a ∧ σ p a ≤ 1600) ∧ (0 ≤ σ p (a + 1) ∧ σ p (a + 1) ≤ 1600) ∧ (σ p (a + 1) ≤ σ p a → τ 98 (2 * i + w) = -1) ∧ (¬ σ p (a + 1) ≤ σ p a → ¬ τ 98 (2 * i + w) = -1 ∧ 0 ≤ τ 98 (2 * i + w) ∧ τ 98 (2 * i + w) ≤ 1600) := by
  rcases h with ⟨h1, h2, h3⟩ | ⟨h1, h2, h3, -, -⟩
  · exact ⟨by omega, by omega, fun _ => h3, fun q => absurd (by omega) q⟩
  · exact ⟨by omega, by omega, fun q => by omega, fun q => by omega⟩
theorem j_stmt {F l p i s : Nat} {σ τ : mMem} {b : Nat → Int} (hF : 2000 ≤ F) (hb : ∀ j, j < l → 0 ≤ b j ∧ b j ≤ 255) (c : CTk σ b l s) (hs : s < l) (hm : Mt σ τ b l) (hk : PlK σ τ p i) (hx : σ p 4 ≤ (xCt b s : Int)) : ∃ σ' τ', g_X6_readStatement F 0 σ = some (0, σ') ∧ g_X12_statement F τ = some (0, τ') ∧ Sk σ τ σ' τ' b l p i := by
  obtain ⟨⟨hp, hi, h13, h30⟩, kf, kb, kt, ⟨k1, k2, k3⟩, kc, ko5, ko7⟩ := id hk
  have tn : ((p : Int)).toNat = p := by omega
  have hp' : (p : Int) = 3 ∨ (p : Int) = 8 := by clear ko5 ko7; omega
  have rs := r_st (F := F) c hm
  obtain ⟨lx, v, e8⟩ := r_lexl (F := F) c hm
  have rg := c.rg hb
  have bad : ∀ (X : mRs), X = mob (g_X8_refuseHere F 1 σ) (fun _ σ' => some (0, σ')) → (∀ τ', g_X12_blame F 1 (τ 86 4) τ = some (0, τ') → g_X12_statement F τ = some (0, τ')) → ∃ σ' τ', X = some (0, σ') ∧ g_X12_statement F τ = some (0, τ') ∧ Sk σ τ σ' τ' b l p i := by
    intro X hX hr
    obtain ⟨σ1, a1, a2, a3⟩ := c_ref (F := F) (x := 1) c (by decide) c.le
    obtain ⟨τd, d1, d2, d3, d4, -⟩ := r_die2 (F := F) hm c a3
    exact ⟨σ1, τd, by rw [hX]; exact e_mob a1 rfl, hr _ d1, Sk.dead a2 d2 hm a3 d3 d4⟩
  by_cases w2 : wd σ 2
  · obtain ⟨σ', τ', h1, h2, h3⟩ := j_grey (F := F) hF hb c hs hm hk
    refine ⟨σ', τ', c_st w2 (by decide) ?_, rs.1 _ w2 h2, Sk.of h3 h1 mo_grey (f_X6_readGrey h1 p 4 (by unfold T_X6_readGrey; clear ko5 ko7; omega)) c hx⟩
    unfold g_X6_readStatement_b33 g_X6_readStatement_b180
    exact e_t rfl (e_mob (c_one (by decide) (by decide) (by decide) (by decide)) (e_f (by decide) (e_f (by decide) (e_t (by decide) (e_mob h1 rfl)))))
  by_cases w3 : wd σ 3
  · have h11 : 0 ≤ σ p 11 ∧ σ p 11 ≤ 6 := kb.1.2
    have one := c_one3 (F := F) hp h13 h11
    by_cases c6 : σ p 11 = 6
    · rw [if_pos c6] at one
      obtain ⟨σ1, a1, a2, a3⟩ := c_ref (F := F) (x := 6) c (by decide) c.le
      obtain ⟨σ2, b1, b2, b3⟩ := c_boxd (F := F) (p := p) a3 hp (by rw [a2.1 13 (by decide)]; exact h13) (by rw [a2.1 p (np14 hp)]; exact c6)
      obtain ⟨τd, d1, d2, d3, d4, -⟩ := r_die2 (F := F) hm c a3
      refine ⟨σ2, τd, c_st w3 (by decide) ?_, rs.2.1 _ w3 ?_, Sk.dead (b2.tr a2) d2 hm b3 d3 d4⟩
      · unfold g_X6_readStatement_b33 g_X6_readStatement_b180
        rw [one]
        exact e_t rfl (e_mob (e_mob a1 rfl) (e_f (by decide) (e_f (by decide) (e_f (by decide) (e_t (by decide) (e_mob b1 rfl))))))
      · have e91 : τ 91 i = 6 := by rw [← kb.1.1]; exact c6
        unfold g_X12_boxing g_X12_boxing_b20
        rw [h30, mwN (i := i) (by clear ko5 ko7; omega), e91]
        exact e_t (mwR (by clear ko5 ko7; omega) (by decide)) (e_f (fun q => q rfl) (e_mob (r_cnt1 e8 d1 d3 (by decide)) (e_f (fun q => q (by decide)) rfl)))
    · rw [if_neg c6] at one
      obtain ⟨n, hn⟩ : ∃ n : Nat, σ p 11 = (n : Int) := ⟨(σ p 11).toNat, by clear ko5 ko7; omega⟩
      obtain ⟨σ', τ', h1, h2, h3⟩ := j_box (F := F) hF hb c hs hm hk hn (by clear ko5 ko7; omega)
      refine ⟨σ', τ', c_st w3 (by decide) ?_, rs.2.1 _ w3 h2, Sk.of h3 h1 mo_rbox (f_X6_readBox h1 p 4 (by unfold T_X6_readBox; clear ko5 ko7; omega)) c hx⟩
      unfold g_X6_readStatement_b33 g_X6_readStatement_b180
      exact e_t rfl (e_mob one (e_f (by decide) (e_f (by decide) (e_f (by decide) (e_t (by decide) (e_mob h1 rfl))))))
  by_cases w6 : wd σ 6
  · obtain ⟨σ', τ', h1, h2, h3⟩ := j_eyes (F := F) hF hb c hs hm hk
    refine ⟨σ', τ', c_st w6 (by decide) ?_, rs.2.2.1 _ w6 h2, Sk.of h3 h1 mo_eyes (f_X6_readEyes h1 p 4 (by unfold T_X6_readEyes; clear ko5 ko7; omega)) c hx⟩
    unfold g_X6_readStatement_b33 g_X6_readStatement_b180
    exact e_t rfl (e_mob (c_one (by decide) (by decide) (by decide) (by decide)) (e_f (by decide) (e_f (by decide) (e_f (by decide) (e_f (by decide) (e_f (by decide) (e_f (by decide) (e_t (by decide) (e_mob h1 rfl)))))))))
  by_cases w9 : wd σ 9
  · obtain ⟨σ', τ', h1, h2, h3⟩ := j_bias (F := F) hF hb c hs hm hk
    refine ⟨σ', τ', c_st w9 (by decide) ?_, rs.2.2.2.1 _ w9 h2, Sk.of h3 h1 mo_bias (f_X6_readBias h1 p 4 (by unfold T_X6_readBias; clear ko5 ko7; omega)) c hx⟩
    unfold g_X6_readStatement_b33 g_X6_readStatement_b180
    exact e_t rfl (e_mob (c_one (by decide) (by decide) (by decide) (by decide)) (e_f (by decide) (e_f (by decide) (e_f (by decide) (e_f (by decide) (e_f (by decide) (e_f (by decide) (e_f (by decide) (e_f (by decide) (e_f (by decide) (e_t (by decide) (e_mob h1 rfl))))))))))))
  by_cases w10 : wd σ 10
  · obtain ⟨g1, g2, g3, g4⟩ := ko5.rg k3
    have one := c_oneS (F := F) hp h13 g1 g2
    have kw : Kw 0 5 4 5 5 := Or.inl ⟨rfl, rfl, rfl, rfl, rfl⟩
    by_cases cs : σ p 6 ≤ σ p 5
    · rw [if_pos cs] at one
      obtain ⟨σ4, σ9, τ', f1, f2, f3, f4, f5, f6, f7⟩ := j_form (F := F) hF hb c hs hm hk hx kw (g3 cs)
      have h1 := c_rdS (F := F) hp f1 f2 f3 f4
      refine ⟨_, τ', c_st w10 (by decide) ?_, rs.2.2.2.2.1 _ w10 f5, ⟨f6, f7⟩⟩
      unfold g_X6_readStatement_b33 g_X6_readStatement_b180
      refine e_t rfl (e_mob one ?_)
      rw [h13, tn]
      exact e_f (by decide) (e_f (by decide) (e_f (by decide) (e_f (by decide) (e_f (by decide) (e_f (by decide) (e_f (by decide) (e_f (by decide) (e_f (by decide) (e_f (by decide) (e_t (by decide) (e_t hp' (e_mob h1 rfl))))))))))))
    · rw [if_neg cs] at one
      obtain ⟨σ1, a1, a2, a3⟩ := c_ref (F := F) (x := 6) c (by decide) c.le
      obtain ⟨σ4, σ9, τ', f1, f2, f3, f4, f5, f6, f7⟩ := j_again (F := F) hF c hm hk kw (g4 cs) a2 a3
      have h1 := c_rdS (F := F) hp f1 f2 f3 f4
      refine ⟨_, τ', c_st w10 (by decide) ?_, rs.2.2.2.2.1 _ w10 f5, ⟨f6, fun s' c' => (f7 s' c').elim⟩⟩
      unfold g_X6_readStatement_b33 g_X6_readStatement_b180
      rw [one]
      refine e_t rfl (e_mob (e_mob a1 rfl) ?_)
      rw [a2.1 13 (by decide), h13, tn]
      exact e_f (by decide) (e_f (by decide) (e_f (by decide) (e_f (by decide) (e_f (by decide) (e_f (by decide) (e_f (by decide) (e_f (by decide) (e_f (by decide) (e_f (by decide) (e_t (by decide) (e_t hp' (e_mob h1 rfl))))))))))))
  by_cases w11 : wd σ 11
  · obtain ⟨g1, g2, g3, g4⟩ := ko7.rg k3
    have one := c_oneG (F := F) hp h13 g1 g2
    have kw : Kw 1 7 0 1 7 := Or.inr ⟨rfl, rfl, rfl, rfl, rfl⟩
    by_cases cs : σ p 8 ≤ σ p 7
    · rw [if_pos cs] at one
      obtain ⟨σ4, σ9, τ', f1, f2, f3, f4, f5, f6, f7⟩ := j_form (F := F) hF hb c hs hm hk hx kw (g3 cs)
      have h1 := c_rdG (F := F) hp f1 f2 f3 f4
      refine ⟨_, τ', c_st w11 (by decide) ?_, rs.2.2.2.2.2.1 _ w11 f5, ⟨f6, f7⟩⟩
      unfold g_X6_readStatement_b33 g_X6_readStatement_b180
      refine e_t rfl (e_mob one ?_)
      rw [h13, tn]
      exact e_f (by decide) (e_f (by decide) (e_f (by decide) (e_f (by decide) (e_f (by decide) (e_f (by decide) (e_f (by decide) (e_f (by decide) (e_f (by decide) (e_f (by decide) (e_f (by decide) (e_t (by decide) (e_t hp' (e_mob h1 rfl)))))))))))))
    · rw [if_neg cs] at one
      obtain ⟨σ1, a1, a2, a3⟩ := c_ref (F := F) (x := 6) c (by decide) c.le
      obtain ⟨σ4, σ9, τ', f1, f2, f3, f4, f5, f6, f7⟩ := j_again (F := F) hF c hm hk kw (g4 cs) a2 a3
      have h1 := c_rdG (F := F) hp f1 f2 f3 f4
      refine ⟨_, τ', c_st w11 (by decide) ?_, rs.2.2.2.2.2.1 _ w11 f5, ⟨f6, fun s' c' => (f7 s' c').elim⟩⟩
      unfold g_X6_readStatement_b33 g_X6_readStatement_b180
      rw [one]
      refine e_t rfl (e_mob (e_mob a1 rfl) ?_)
      rw [a2.1 13 (by decide), h13, tn]
      exact e_f (by decide) (e_f (by decide) (e_f (by decide) (e_f (by decide) (e_f (by decide) (e_f (by decide) (e_f (by decide) (e_f (by decide) (e_f (by decide) (e_f (by decide) (e_f (by decide) (e_t (by decide) (e_t hp' (e_mob h1 rfl)))))))))))))
  have setting : ∀ (w : Nat) (lim : Int), ((w = 0 ∧ lim = 999) ∨ (w = 1 ∧ lim = 9) ∨ (w = 2 ∧ lim = 100)) → wd σ (12 + (w : Int)) → (∀ τ', g_X12_telling F (w : Int) lim τ = some (0, τ') → g_X12_statement F τ = some (0, τ')) → ∃ σ' τ', g_X6_readStatement F 0 σ = some (0, σ') ∧ g_X12_statement F τ = some (0, τ') ∧ Sk σ τ σ' τ' b l p i := by
    intro w lim hw hwd hr
    obtain ⟨σ', h1, h2, h3, h4⟩ := j_set (F := F) hF hb hp h13 hw c hs
    obtain ⟨τ', t1, t2, t3, t4⟩ := h4 τ i hm hk
    have w3 : w ≤ 2 := by clear ko5 ko7; omega
    refine ⟨σ', τ', c_st hwd (by omega) ?_, hr _ t1, Sk.of ⟨h2, t2, t3, t4⟩ h1 mo_set (f_X6_readSetting h1 p 4 (by unfold T_X6_readSetting; omega)) c hx⟩
    have b175 : g_X6_readStatement_b175 F (12 + (w : Int)) σ = some (0, σ') := by
      unfold g_X6_readStatement_b175 g_X6_readStatement_b180
      exact e_mob h1 rfl
    unfold g_X6_readStatement_b33
    refine e_t rfl (e_mob (c_one (by omega) (by omega) (by omega) (by omega)) ?_)
    rw [mw_id (z := 12 + (w : Int)) (by omega) (by omega)]
    exact e_f (by omega) (e_f (by omega) (e_f (by omega) (e_f (by omega) (e_f (by omega) (e_f (by omega) (e_f (by omega) (e_f (by omega) (e_f (by omega) (e_f (by omega) (e_f (by omega) (e_f (by omega) b175)))))))))))
  by_cases w12 : wd σ 12
  · exact setting 0 999 (Or.inl ⟨rfl, rfl⟩) w12 (fun τ' h => rs.2.2.2.2.2.2.1 _ w12 h)
  by_cases w13 : wd σ 13
  · exact setting 1 9 (Or.inr (Or.inl ⟨rfl, rfl⟩)) w13 (fun τ' h => rs.2.2.2.2.2.2.2.1 _ w13 h)
  by_cases w14 : wd σ 14
  · exact setting 2 100 (Or.inr (Or.inr ⟨rfl, rfl⟩)) w14 (fun τ' h => rs.2.2.2.2.2.2.2.2.1 _ w14 h)
  refine bad _ ?_ (fun τ' h => rs.2.2.2.2.2.2.2.2.2 _ ⟨w2, w3, w6, w9, w10, w11, w12, w13, w14⟩ h)
  by_cases c7 : σ 14 7 = 2
  · obtain ⟨k, hk28, hk9⟩ : ∃ k : Nat, k < 28 ∧ σ 14 9 = (k : Int) := by
      rcases v.2.2 with ⟨h, -⟩ | ⟨h, -⟩ | ⟨k, h1, -, h2, -⟩ | ⟨h, -⟩ | ⟨h, -⟩
      · rw [c7] at h; exact absurd h (by decide)
      · rw [c7] at h; exact absurd h (by decide)
      · exact ⟨k, h1, h2⟩
      · rw [c7] at h; exact absurd h (by decide)
      · rw [c7] at h; exact absurd h (by decide)
    by_cases c0 : k = 0
    · unfold g_X6_readStatement g_X6_readStatement_b22 g_X6_readStatement_b33
      rw [c7, hk9, c0]
      refine e_f (fun q => q rfl) (e_f (fun q => q (by decide)) (e_f (by decide) rfl))
    · have hwd : wd σ (k : Int) := ⟨c7, hk9⟩
      have ne : ∀ d : Int, ¬ wd σ d → ¬ (k : Int) = d := fun d h q => h (by rw [← q]; exact hwd)
      refine c_st hwd (by omega) (c_stb (by omega) ⟨by omega, ne 2 w2, ne 3 w3, ne 6 w6, ne 9 w9, ne 10 w10, ne 11 w11, ne 12 w12, ne 13 w13, ne 14 w14⟩)
  · unfold g_X6_readStatement g_X6_readStatement_b22
    rw [mw_id (z := σ 14 7) (by clear ko5 ko7; omega) (by clear ko5 ko7; omega), show mw 2 = 2 by decide]
    exact e_t c7 (e_t (by decide) (c_stb (by decide) (by decide)))
