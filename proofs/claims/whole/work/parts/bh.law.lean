/-! THE LAW: a call of either, and compare (written by genlaw.py) -/
theorem l_i32 (y : Int32) : i32 y.toInt := ⟨Int32.le_toInt y, by have := Int32.toInt_lt y; omega⟩
section LW
variable {p : Program} {l : Launch} {e : Env} {R : Room} {s : State} {m : MethodId} {args : Array Value} {below : List Frame} {meth : Method} {c : Code} {H : Heap} {locs : List Loc} {cells slots : Nat} {Q : State → Prop}
variable {pc : Nat} {ls : Array Slot} {rest st : List Value} {D : va_G} {cy : Nat → ClassId} {σ : mMem} {ret : Option FieldType} {b L i : Nat} {xs : Nat → Int32} {bs : Nat}
/-- what stands in the law's locals -/
def lLv (b bs i : Nat) : List (Nat × Value) := [(0, .ref b), (1, .ref (mAd bs 0)), (2, .ref (mAd bs 86)), (3, .int (mI (i : Int)))]
theorem l_arg {j : Nat} {z : Int} (hz : z = (j : Int)) (X : mCx p m c code 4 s args RL meth D cy ret) (hX : va_X b L xs s s.heap) (hbl : b < s.heap.size) (hbA : ¬ mA bs b) (hS : va_S (mA bs) s.heap H locs) (hl : lv_has ls 4 (lLv b bs i)) (hi : i + j < L) (hL : L ≤ 3072) (d0 : decode code pc = .ok (.aload_n 0, 1)) (d1 : decode code (pc + 1) = .ok (.iload_n 3, 1)) (d2 : decode code (pc + 2) = .ok (.iconst z, 1)) (d3 : decode code (pc + 3) = .ok (.iadd, 1)) (d4 : decode code (pc + 4) = .ok (.iaload, 1))
    (kk : W p l e R s m args below meth c H locs cells slots Q (F0 m (pc + 5) ls (.int (mI (xs (i + j)).toInt) :: rest))) : W p l e R s m args below meth c H locs cells slots Q (F0 m pc ls rest) := by
  subst hz
  obtain ⟨hx, hb, -, -, -⟩ := X.1
  refine lv_aload_n hx hb d0 rfl (lv_at hl 0 rfl) ?_
  refine lv_iload_n hx hb d1 rfl (lv_at hl 3 rfl) ?_
  refine lv_iconst (v := mI (j : Int)) hx hb d2 rfl ?_
  refine r_iadd X d3 ?_
  have h : 0 ≤ mw ((i : Int) + (j : Int)) ∧ mw ((i : Int) + (j : Int)) < (L : Int) := by rw [mw_id (by omega) (by omega)]; omega
  have hi2 := mI_in h
  refine va_sld hx hb hX hbl hbA hS hi2.1 d4 ?_
  rw [hi2.2, show (mw ((i : Int) + (j : Int))).toNat = i + j by rw [mw_id (by omega) (by omega)]; omega]
  rw [mI_of] at kk
  exact kk
theorem l_call {o ci len N h' maxL index nA : Nat} {C : String} {T : u_T} {y : MethodName} {bytes : ByteArray} {rt : Option FieldType} (As : List Value) (X : mCx p m c code 4 s args RL meth D cy ret) (hw : mWd D cy (mAd bs) bs true mN σ s.heap H locs) (r0 : Int) (σ1 : mMem) (hM : mCi l D cy (mAd bs) bs y bytes maxL rt h' (.ref (mAd bs o) :: As) σ r0 σ1) (hs : mSh o = (ci, len)) (hc : vwCl[ci]? = some (C, T, N)) (h13 : ci < 13) (hyC : y.cls = C) (K : mKm y bytes maxL rt nA) (V : mKv y) (hlk : Cond.methodLink RL index y ∈ lw_g) (hdg : decode code pc = .ok (.invokevirtual index, 3)) (hsz : ls.size = 4) (hst : st = As.reverse ++ .ref (mAd bs o) :: rest) (hn : As.length = nA) (hcat : (rest.map fun v => v.category).sum ≤ 8) (hR : h' + 1 ≤ R.frames ∧ 8 + (maxL + 11) + 64 * h' ≤ R.locals) (hRc : cells ≤ R.cells ∧ slots ≤ R.slots)
    (kk : ∀ (H1 : Heap) (locs1 : List Loc), mWd D cy (mAd bs) bs true mN σ1 s.heap H1 locs1 → W p l e R s m args below meth c H1 locs1 cells slots Q (F0 m (pc + 3) ls (.int (mI r0) :: rest))) : W p l e R s m args below meth c H locs cells slots Q (F0 m pc ls st) :=
  r_cvi (q := some (r0, σ1)) (k9 := fun a b => some (a, b)) (z := (r0, σ1)) As X hw (fun a b h => by cases h; exact hM) hs hc h13 hyC K V hlk hdg hsz hst hn hcat hR hRc rfl (fun a b h _ H1 locs1 hw1 => by cases h; exact kk H1 locs1 hw1)
theorem lc_0 {pp ss : Nat} {N : Int} (X : mCx p m c code 4 s args RL meth D cy ret) (hX : va_X b L xs s s.heap) (hbl : b < s.heap.size) (hbA : ¬ mA bs b) (hL : L ≤ 3072) (hw : mWd D cy (mAd bs) bs true mN σ s.heap H locs) (hl : lv_has ls 4 (lLv b bs i)) (hi : i + 6 ≤ L) (r : Rel σ pp ss N) (hO : Own σ) (hN : 0 ≤ N ∧ N ≤ 10000) (hR0 : 2000 ≤ R.frames ∧ 80000 ≤ R.locals) (hRc : cells ≤ R.cells ∧ slots ≤ R.slots)
    (kk : ∀ (σ' : mMem) (H1 : Heap) (locs1 : List Loc) (p' s' : Nat), mWd D cy (mAd bs) bs true mN σ' s.heap H1 locs1 → Rel σ' p' s' (N + 1) → Own σ' → W p l e R s m args below meth c H1 locs1 cells slots Q (F0 m 1062 ls [])) : W p l e R s m args below meth c H locs cells slots Q (F0 m 176 ls []) := by
  obtain ⟨hx, hb, -, -, -⟩ := X.1
  obtain ⟨v, σ1, σ2, p', s', g1, g2, g3⟩ := a_feed (F := 2000) (a := (xs (i + 1)).toInt) (b := (xs (i + 2)).toInt) (c := (xs (i + 3)).toInt) (d := (xs (i + 4)).toInt) (e := (xs (i + 5)).toInt) (Nat.le_refl _) r
  have o2 : Own σ2 := fun k hk => by rw [f_X12_feed g2 15 k (by unfold T_X12_feed; first | exact not_false | omega), f_X11_feed g1 15 k (by unfold T_X11_feed; first | exact not_false | omega)]; exact hO k hk
  refine lv_aload_n hx hb dL_law_176 rfl (lv_at hl 1 rfl) ?_
  refine l_arg (j := 1) rfl X hX hbl hbA hw.2.2.1 hl (by omega) hL dL_law_177 dL_law_178 dL_law_179 dL_law_180 dL_law_181 ?_
  refine l_arg (j := 2) rfl X hX hbl hbA hw.2.2.1 hl (by omega) hL dL_law_182 dL_law_183 dL_law_184 dL_law_185 dL_law_186 ?_
  refine l_arg (j := 3) rfl X hX hbl hbA hw.2.2.1 hl (by omega) hL dL_law_187 dL_law_188 dL_law_189 dL_law_190 dL_law_191 ?_
  refine l_arg (j := 4) rfl X hX hbl hbA hw.2.2.1 hl (by omega) hL dL_law_192 dL_law_193 dL_law_194 dL_law_195 dL_law_196 ?_
  refine l_arg (j := 5) rfl X hX hbl hbA hw.2.2.1 hl (by omega) hL dL_law_197 dL_law_198 dL_law_199 dL_law_200 dL_law_201 ?_
  refine l_call (rest := []) [.int (mI (xs (i + 1)).toInt), .int (mI (xs (i + 2)).toInt), .int (mI (xs (i + 3)).toInt), .int (mI (xs (i + 4)).toInt), .int (mI (xs (i + 5)).toInt)] X hw v σ1 (c_X11_feed l D cy (mAd bs) bs 2000 (xs (i + 1)).toInt (xs (i + 2)).toInt (xs (i + 3)).toInt (xs (i + 4)).toInt (xs (i + 5)).toInt _ v σ1 g1) sh_0 rfl (by decide) rfl km_X11_feed kv_X11_feed lm_L_13 dL_law_202 hl.1 rfl rfl (Nat.le_of_ble_eq_true rfl) ⟨by omega, by omega⟩ hRc (fun H locs hw => ?_)
  refine lv_aload_n hx hb dL_law_205 rfl (lv_at hl 2 rfl) ?_
  refine l_arg (j := 1) rfl X hX hbl hbA hw.2.2.1 hl (by omega) hL dL_law_206 dL_law_207 dL_law_208 dL_law_209 dL_law_210 ?_
  refine l_arg (j := 2) rfl X hX hbl hbA hw.2.2.1 hl (by omega) hL dL_law_211 dL_law_212 dL_law_213 dL_law_214 dL_law_215 ?_
  refine l_arg (j := 3) rfl X hX hbl hbA hw.2.2.1 hl (by omega) hL dL_law_216 dL_law_217 dL_law_218 dL_law_219 dL_law_220 ?_
  refine l_arg (j := 4) rfl X hX hbl hbA hw.2.2.1 hl (by omega) hL dL_law_221 dL_law_222 dL_law_223 dL_law_224 dL_law_225 ?_
  refine l_arg (j := 5) rfl X hX hbl hbA hw.2.2.1 hl (by omega) hL dL_law_226 dL_law_227 dL_law_228 dL_law_229 dL_law_230 ?_
  refine l_call (rest := [.int (mI v)]) [.int (mI (xs (i + 1)).toInt), .int (mI (xs (i + 2)).toInt), .int (mI (xs (i + 3)).toInt), .int (mI (xs (i + 4)).toInt), .int (mI (xs (i + 5)).toInt)] X hw v σ2 (c_X12_feed l D cy (mAd bs) bs 2000 (xs (i + 1)).toInt (xs (i + 2)).toInt (xs (i + 3)).toInt (xs (i + 4)).toInt (xs (i + 5)).toInt _ v σ2 g2) sh_86 rfl (by decide) rfl km_X12_feed kv_X12_feed lm_L_17 dL_law_231 hl.1 rfl rfl (Nat.le_of_ble_eq_true rfl) ⟨by omega, by omega⟩ hRc (fun H locs hw => ?_)
  refine lv_icmp_eq (tgt := 1062) hx hb dL_law_234 (by decide) (fun _ => ?_) (fun q => absurd rfl q)
  exact kk σ2 H locs p' s' hw g3 o2
theorem lc_1 {pp ss : Nat} {N : Int} (X : mCx p m c code 4 s args RL meth D cy ret) (hX : va_X b L xs s s.heap) (hbl : b < s.heap.size) (hbA : ¬ mA bs b) (hL : L ≤ 3072) (hw : mWd D cy (mAd bs) bs true mN σ s.heap H locs) (hl : lv_has ls 4 (lLv b bs i)) (hi : i + 6 ≤ L) (r : Rel σ pp ss N) (hO : Own σ) (hN : 0 ≤ N ∧ N ≤ 10000) (hR0 : 2000 ≤ R.frames ∧ 80000 ≤ R.locals) (hRc : cells ≤ R.cells ∧ slots ≤ R.slots)
    (kk : ∀ (σ' : mMem) (H1 : Heap) (locs1 : List Loc) (p' s' : Nat), mWd D cy (mAd bs) bs true mN σ' s.heap H1 locs1 → Rel σ' p' s' (N + 1) → Own σ' → W p l e R s m args below meth c H1 locs1 cells slots Q (F0 m 1062 ls [])) : W p l e R s m args below meth c H locs cells slots Q (F0 m 239 ls []) := by
  obtain ⟨hx, hb, -, -, -⟩ := X.1
  obtain ⟨v, σ1, σ2, p', s', g1, g2, g3⟩ := a_end (F := 2000) (x := (xs (i + 1)).toInt) (l_i32 _) r
  have o2 : Own σ2 := fun k hk => by rw [f_X12_end g2 15 k (by unfold T_X12_end; first | exact not_false | omega), f_X11_end g1 15 k (by unfold T_X11_end; first | exact not_false | omega)]; exact hO k hk
  refine lv_aload_n hx hb dL_law_239 rfl (lv_at hl 1 rfl) ?_
  refine l_arg (j := 1) rfl X hX hbl hbA hw.2.2.1 hl (by omega) hL dL_law_240 dL_law_241 dL_law_242 dL_law_243 dL_law_244 ?_
  refine l_call (rest := []) [.int (mI (xs (i + 1)).toInt)] X hw v σ1 (c_X11_end l D cy (mAd bs) bs 2000 (xs (i + 1)).toInt _ v σ1 g1) sh_0 rfl (by decide) rfl km_X11_end kv_X11_end lm_L_18 dL_law_245 hl.1 rfl rfl (Nat.le_of_ble_eq_true rfl) ⟨by omega, by omega⟩ hRc (fun H locs hw => ?_)
  refine lv_aload_n hx hb dL_law_248 rfl (lv_at hl 2 rfl) ?_
  refine l_arg (j := 1) rfl X hX hbl hbA hw.2.2.1 hl (by omega) hL dL_law_249 dL_law_250 dL_law_251 dL_law_252 dL_law_253 ?_
  refine l_call (rest := [.int (mI v)]) [.int (mI (xs (i + 1)).toInt)] X hw v σ2 (c_X12_end l D cy (mAd bs) bs 2000 (xs (i + 1)).toInt _ v σ2 g2) sh_86 rfl (by decide) rfl km_X12_end kv_X12_end lm_L_22 dL_law_254 hl.1 rfl rfl (Nat.le_of_ble_eq_true rfl) ⟨by omega, by omega⟩ hRc (fun H locs hw => ?_)
  refine lv_icmp_eq (tgt := 1062) hx hb dL_law_257 (by decide) (fun _ => ?_) (fun q => absurd rfl q)
  exact kk σ2 H locs p' s' hw g3 o2
theorem lc_2 {pp ss : Nat} {N : Int} (X : mCx p m c code 4 s args RL meth D cy ret) (hX : va_X b L xs s s.heap) (hbl : b < s.heap.size) (hbA : ¬ mA bs b) (hL : L ≤ 3072) (hw : mWd D cy (mAd bs) bs true mN σ s.heap H locs) (hl : lv_has ls 4 (lLv b bs i)) (hi : i + 6 ≤ L) (r : Rel σ pp ss N) (hO : Own σ) (hN : 0 ≤ N ∧ N ≤ 10000) (hR0 : 2000 ≤ R.frames ∧ 80000 ≤ R.locals) (hRc : cells ≤ R.cells ∧ slots ≤ R.slots)
    (kk : ∀ (σ' : mMem) (H1 : Heap) (locs1 : List Loc) (p' s' : Nat), mWd D cy (mAd bs) bs true mN σ' s.heap H1 locs1 → Rel σ' p' s' (N + 1) → Own σ' → W p l e R s m args below meth c H1 locs1 cells slots Q (F0 m 1062 ls [])) : W p l e R s m args below meth c H locs cells slots Q (F0 m 262 ls []) := by
  obtain ⟨hx, hb, -, -, -⟩ := X.1
  obtain ⟨v, σ1, σ2, p', s', g1, g2, g3⟩ := a_kitchen (F := 2000)  (Nat.le_refl _) hN.2 hO r
  have o2 : Own σ2 := fun k hk => by rw [f_X12_kitchen g2 15 k (by unfold T_X12_kitchen; first | exact not_false | omega), f_X11_kitchen g1 15 k (by unfold T_X11_kitchen; first | exact not_false | omega)]; exact hO k hk
  refine lv_aload_n hx hb dL_law_262 rfl (lv_at hl 1 rfl) ?_
  refine l_call (rest := []) [] X hw v σ1 (c_X11_kitchen l D cy (mAd bs) bs 2000  _ v σ1 g1) sh_0 rfl (by decide) rfl km_X11_kitchen kv_X11_kitchen lm_L_23 dL_law_263 hl.1 rfl rfl (Nat.le_of_ble_eq_true rfl) ⟨by omega, by omega⟩ hRc (fun H locs hw => ?_)
  refine lv_aload_n hx hb dL_law_266 rfl (lv_at hl 2 rfl) ?_
  refine l_call (rest := [.int (mI v)]) [] X hw v σ2 (c_X12_kitchen l D cy (mAd bs) bs 2000  _ v σ2 g2) sh_86 rfl (by decide) rfl km_X12_kitchen kv_X12_kitchen lm_L_27 dL_law_267 hl.1 rfl rfl (Nat.le_of_ble_eq_true rfl) ⟨by omega, by omega⟩ hRc (fun H locs hw => ?_)
  refine lv_icmp_eq (tgt := 1062) hx hb dL_law_270 (by decide) (fun _ => ?_) (fun q => absurd rfl q)
  exact kk σ2 H locs p' s' hw g3 o2
theorem lc_3 {pp ss : Nat} {N : Int} (X : mCx p m c code 4 s args RL meth D cy ret) (hX : va_X b L xs s s.heap) (hbl : b < s.heap.size) (hbA : ¬ mA bs b) (hL : L ≤ 3072) (hw : mWd D cy (mAd bs) bs true mN σ s.heap H locs) (hl : lv_has ls 4 (lLv b bs i)) (hi : i + 6 ≤ L) (r : Rel σ pp ss N) (hO : Own σ) (hN : 0 ≤ N ∧ N ≤ 10000) (hR0 : 2000 ≤ R.frames ∧ 80000 ≤ R.locals) (hRc : cells ≤ R.cells ∧ slots ≤ R.slots)
    (kk : ∀ (σ' : mMem) (H1 : Heap) (locs1 : List Loc) (p' s' : Nat), mWd D cy (mAd bs) bs true mN σ' s.heap H1 locs1 → Rel σ' p' s' (N + 1) → Own σ' → W p l e R s m args below meth c H1 locs1 cells slots Q (F0 m 1062 ls [])) : W p l e R s m args below meth c H locs cells slots Q (F0 m 275 ls []) := by
  obtain ⟨hx, hb, -, -, -⟩ := X.1
  obtain ⟨v, σ1, σ2, p', s', g1, g2, g3⟩ := a_fault (F := 2000) (x := (xs (i + 1)).toInt) r
  have o2 : Own σ2 := fun k hk => by rw [f_X12_fault g2 15 k (by unfold T_X12_fault; first | exact not_false | omega), f_X11_fault g1 15 k (by unfold T_X11_fault; first | exact not_false | omega)]; exact hO k hk
  refine lv_aload_n hx hb dL_law_275 rfl (lv_at hl 1 rfl) ?_
  refine l_arg (j := 1) rfl X hX hbl hbA hw.2.2.1 hl (by omega) hL dL_law_276 dL_law_277 dL_law_278 dL_law_279 dL_law_280 ?_
  refine l_call (rest := []) [.int (mI (xs (i + 1)).toInt)] X hw v σ1 (c_X11_fault l D cy (mAd bs) bs 2000 (xs (i + 1)).toInt _ v σ1 g1) sh_0 rfl (by decide) rfl km_X11_fault kv_X11_fault lm_L_28 dL_law_281 hl.1 rfl rfl (Nat.le_of_ble_eq_true rfl) ⟨by omega, by omega⟩ hRc (fun H locs hw => ?_)
  refine lv_aload_n hx hb dL_law_284 rfl (lv_at hl 2 rfl) ?_
  refine l_arg (j := 1) rfl X hX hbl hbA hw.2.2.1 hl (by omega) hL dL_law_285 dL_law_286 dL_law_287 dL_law_288 dL_law_289 ?_
  refine l_call (rest := [.int (mI v)]) [.int (mI (xs (i + 1)).toInt)] X hw v σ2 (c_X12_fault l D cy (mAd bs) bs 2000 (xs (i + 1)).toInt _ v σ2 g2) sh_86 rfl (by decide) rfl km_X12_fault kv_X12_fault lm_L_32 dL_law_290 hl.1 rfl rfl (Nat.le_of_ble_eq_true rfl) ⟨by omega, by omega⟩ hRc (fun H locs hw => ?_)
  refine lv_icmp_eq (tgt := 1062) hx hb dL_law_293 (by decide) (fun _ => ?_) (fun q => absurd rfl q)
  exact kk σ2 H locs p' s' hw g3 o2
theorem lc_4 {pp ss : Nat} {N : Int} (X : mCx p m c code 4 s args RL meth D cy ret) (hX : va_X b L xs s s.heap) (hbl : b < s.heap.size) (hbA : ¬ mA bs b) (hL : L ≤ 3072) (hw : mWd D cy (mAd bs) bs true mN σ s.heap H locs) (hl : lv_has ls 4 (lLv b bs i)) (hi : i + 6 ≤ L) (r : Rel σ pp ss N) (hO : Own σ) (hN : 0 ≤ N ∧ N ≤ 10000) (hR0 : 2000 ≤ R.frames ∧ 80000 ≤ R.locals) (hRc : cells ≤ R.cells ∧ slots ≤ R.slots)
    (kk : ∀ (σ' : mMem) (H1 : Heap) (locs1 : List Loc) (p' s' : Nat), mWd D cy (mAd bs) bs true mN σ' s.heap H1 locs1 → Rel σ' p' s' (N + 1) → Own σ' → W p l e R s m args below meth c H1 locs1 cells slots Q (F0 m 1062 ls [])) : W p l e R s m args below meth c H locs cells slots Q (F0 m 298 ls []) := by
  obtain ⟨hx, hb, -, -, -⟩ := X.1
  obtain ⟨v, σ1, σ2, p', s', g1, g2, g3⟩ := a_has (F := 2000) (x := (xs (i + 1)).toInt) (Nat.le_refl _) (l_i32 _) hN.2 r
  have o2 : Own σ2 := fun k hk => by rw [f_X12_has g2 15 k (by unfold T_X12_has; first | exact not_false | omega), f_X11_has g1 15 k (by unfold T_X11_has; first | exact not_false | omega)]; exact hO k hk
  refine lv_aload_n hx hb dL_law_298 rfl (lv_at hl 1 rfl) ?_
  refine l_arg (j := 1) rfl X hX hbl hbA hw.2.2.1 hl (by omega) hL dL_law_299 dL_law_300 dL_law_301 dL_law_302 dL_law_303 ?_
  refine l_call (rest := []) [.int (mI (xs (i + 1)).toInt)] X hw v σ1 (c_X11_has l D cy (mAd bs) bs 2000 (xs (i + 1)).toInt _ v σ1 g1) sh_0 rfl (by decide) rfl km_X11_has kv_X11_has lm_L_33 dL_law_304 hl.1 rfl rfl (Nat.le_of_ble_eq_true rfl) ⟨by omega, by omega⟩ hRc (fun H locs hw => ?_)
  refine lv_aload_n hx hb dL_law_307 rfl (lv_at hl 2 rfl) ?_
  refine l_arg (j := 1) rfl X hX hbl hbA hw.2.2.1 hl (by omega) hL dL_law_308 dL_law_309 dL_law_310 dL_law_311 dL_law_312 ?_
  refine l_call (rest := [.int (mI v)]) [.int (mI (xs (i + 1)).toInt)] X hw v σ2 (c_X12_has l D cy (mAd bs) bs 2000 (xs (i + 1)).toInt _ v σ2 g2) sh_86 rfl (by decide) rfl km_X12_has kv_X12_has lm_L_36 dL_law_313 hl.1 rfl rfl (Nat.le_of_ble_eq_true rfl) ⟨by omega, by omega⟩ hRc (fun H locs hw => ?_)
  refine lv_icmp_eq (tgt := 1062) hx hb dL_law_316 (by decide) (fun _ => ?_) (fun q => absurd rfl q)
  exact kk σ2 H locs p' s' hw g3 o2
theorem lc_5 {pp ss : Nat} {N : Int} (X : mCx p m c code 4 s args RL meth D cy ret) (hX : va_X b L xs s s.heap) (hbl : b < s.heap.size) (hbA : ¬ mA bs b) (hL : L ≤ 3072) (hw : mWd D cy (mAd bs) bs true mN σ s.heap H locs) (hl : lv_has ls 4 (lLv b bs i)) (hi : i + 6 ≤ L) (r : Rel σ pp ss N) (hO : Own σ) (hN : 0 ≤ N ∧ N ≤ 10000) (hR0 : 2000 ≤ R.frames ∧ 80000 ≤ R.locals) (hRc : cells ≤ R.cells ∧ slots ≤ R.slots)
    (kk : ∀ (σ' : mMem) (H1 : Heap) (locs1 : List Loc) (p' s' : Nat), mWd D cy (mAd bs) bs true mN σ' s.heap H1 locs1 → Rel σ' p' s' (N + 1) → Own σ' → W p l e R s m args below meth c H1 locs1 cells slots Q (F0 m 1062 ls [])) : W p l e R s m args below meth c H locs cells slots Q (F0 m 321 ls []) := by
  obtain ⟨hx, hb, -, -, -⟩ := X.1
  obtain ⟨v, σ1, σ2, p', s', g1, g2, g3⟩ := a_letter (F := 2000) (x := (xs (i + 1)).toInt) (y := (xs (i + 2)).toInt) (Nat.le_refl _) (l_i32 _) (l_i32 _) r
  have o2 : Own σ2 := fun k hk => by rw [f_X12_letter g2 15 k (by unfold T_X12_letter; first | exact not_false | omega), f_X11_letter g1 15 k (by unfold T_X11_letter; first | exact not_false | omega)]; exact hO k hk
  refine lv_aload_n hx hb dL_law_321 rfl (lv_at hl 1 rfl) ?_
  refine l_arg (j := 1) rfl X hX hbl hbA hw.2.2.1 hl (by omega) hL dL_law_322 dL_law_323 dL_law_324 dL_law_325 dL_law_326 ?_
  refine l_arg (j := 2) rfl X hX hbl hbA hw.2.2.1 hl (by omega) hL dL_law_327 dL_law_328 dL_law_329 dL_law_330 dL_law_331 ?_
  refine l_call (rest := []) [.int (mI (xs (i + 1)).toInt), .int (mI (xs (i + 2)).toInt)] X hw v σ1 (c_X11_letter l D cy (mAd bs) bs 2000 (xs (i + 1)).toInt (xs (i + 2)).toInt _ v σ1 g1) sh_0 rfl (by decide) rfl km_X11_letter kv_X11_letter lm_L_37 dL_law_332 hl.1 rfl rfl (Nat.le_of_ble_eq_true rfl) ⟨by omega, by omega⟩ hRc (fun H locs hw => ?_)
  refine lv_aload_n hx hb dL_law_335 rfl (lv_at hl 2 rfl) ?_
  refine l_arg (j := 1) rfl X hX hbl hbA hw.2.2.1 hl (by omega) hL dL_law_336 dL_law_337 dL_law_338 dL_law_339 dL_law_340 ?_
  refine l_arg (j := 2) rfl X hX hbl hbA hw.2.2.1 hl (by omega) hL dL_law_341 dL_law_342 dL_law_343 dL_law_344 dL_law_345 ?_
  refine l_call (rest := [.int (mI v)]) [.int (mI (xs (i + 1)).toInt), .int (mI (xs (i + 2)).toInt)] X hw v σ2 (c_X12_letter l D cy (mAd bs) bs 2000 (xs (i + 1)).toInt (xs (i + 2)).toInt _ v σ2 g2) sh_86 rfl (by decide) rfl km_X12_letter kv_X12_letter lm_L_41 dL_law_346 hl.1 rfl rfl (Nat.le_of_ble_eq_true rfl) ⟨by omega, by omega⟩ hRc (fun H locs hw => ?_)
  refine lv_icmp_eq (tgt := 1062) hx hb dL_law_349 (by decide) (fun _ => ?_) (fun q => absurd rfl q)
  exact kk σ2 H locs p' s' hw g3 o2
theorem lc_6 {pp ss : Nat} {N : Int} (X : mCx p m c code 4 s args RL meth D cy ret) (hX : va_X b L xs s s.heap) (hbl : b < s.heap.size) (hbA : ¬ mA bs b) (hL : L ≤ 3072) (hw : mWd D cy (mAd bs) bs true mN σ s.heap H locs) (hl : lv_has ls 4 (lLv b bs i)) (hi : i + 6 ≤ L) (r : Rel σ pp ss N) (hO : Own σ) (hN : 0 ≤ N ∧ N ≤ 10000) (hR0 : 2000 ≤ R.frames ∧ 80000 ≤ R.locals) (hRc : cells ≤ R.cells ∧ slots ≤ R.slots)
    (kk : ∀ (σ' : mMem) (H1 : Heap) (locs1 : List Loc) (p' s' : Nat), mWd D cy (mAd bs) bs true mN σ' s.heap H1 locs1 → Rel σ' p' s' (N + 1) → Own σ' → W p l e R s m args below meth c H1 locs1 cells slots Q (F0 m 1062 ls [])) : W p l e R s m args below meth c H locs cells slots Q (F0 m 354 ls []) := by
  obtain ⟨hx, hb, -, -, -⟩ := X.1
  obtain ⟨v, σ1, σ2, p', s', g1, g2, g3⟩ := a_cell (F := 2000) (x := (xs (i + 1)).toInt) (y := (xs (i + 2)).toInt) (z := (xs (i + 3)).toInt) (Nat.le_refl _) (l_i32 _) (l_i32 _) (l_i32 _) r
  have o2 : Own σ2 := fun k hk => by rw [f_X12_cell g2 15 k (by unfold T_X12_cell; first | exact not_false | omega), f_X11_cell g1 15 k (by unfold T_X11_cell; first | exact not_false | omega)]; exact hO k hk
  refine lv_aload_n hx hb dL_law_354 rfl (lv_at hl 1 rfl) ?_
  refine l_arg (j := 1) rfl X hX hbl hbA hw.2.2.1 hl (by omega) hL dL_law_355 dL_law_356 dL_law_357 dL_law_358 dL_law_359 ?_
  refine l_arg (j := 2) rfl X hX hbl hbA hw.2.2.1 hl (by omega) hL dL_law_360 dL_law_361 dL_law_362 dL_law_363 dL_law_364 ?_
  refine l_arg (j := 3) rfl X hX hbl hbA hw.2.2.1 hl (by omega) hL dL_law_365 dL_law_366 dL_law_367 dL_law_368 dL_law_369 ?_
  refine l_call (rest := []) [.int (mI (xs (i + 1)).toInt), .int (mI (xs (i + 2)).toInt), .int (mI (xs (i + 3)).toInt)] X hw v σ1 (c_X11_cell l D cy (mAd bs) bs 2000 (xs (i + 1)).toInt (xs (i + 2)).toInt (xs (i + 3)).toInt _ v σ1 g1) sh_0 rfl (by decide) rfl km_X11_cell kv_X11_cell lm_L_42 dL_law_370 hl.1 rfl rfl (Nat.le_of_ble_eq_true rfl) ⟨by omega, by omega⟩ hRc (fun H locs hw => ?_)
  refine lv_aload_n hx hb dL_law_373 rfl (lv_at hl 2 rfl) ?_
  refine l_arg (j := 1) rfl X hX hbl hbA hw.2.2.1 hl (by omega) hL dL_law_374 dL_law_375 dL_law_376 dL_law_377 dL_law_378 ?_
  refine l_arg (j := 2) rfl X hX hbl hbA hw.2.2.1 hl (by omega) hL dL_law_379 dL_law_380 dL_law_381 dL_law_382 dL_law_383 ?_
  refine l_arg (j := 3) rfl X hX hbl hbA hw.2.2.1 hl (by omega) hL dL_law_384 dL_law_385 dL_law_386 dL_law_387 dL_law_388 ?_
  refine l_call (rest := [.int (mI v)]) [.int (mI (xs (i + 1)).toInt), .int (mI (xs (i + 2)).toInt), .int (mI (xs (i + 3)).toInt)] X hw v σ2 (c_X12_cell l D cy (mAd bs) bs 2000 (xs (i + 1)).toInt (xs (i + 2)).toInt (xs (i + 3)).toInt _ v σ2 g2) sh_86 rfl (by decide) rfl km_X12_cell kv_X12_cell lm_L_46 dL_law_389 hl.1 rfl rfl (Nat.le_of_ble_eq_true rfl) ⟨by omega, by omega⟩ hRc (fun H locs hw => ?_)
  refine lv_icmp_eq (tgt := 1062) hx hb dL_law_392 (by decide) (fun _ => ?_) (fun q => absurd rfl q)
  exact kk σ2 H locs p' s' hw g3 o2
theorem lc_7 {pp ss : Nat} {N : Int} (X : mCx p m c code 4 s args RL meth D cy ret) (hX : va_X b L xs s s.heap) (hbl : b < s.heap.size) (hbA : ¬ mA bs b) (hL : L ≤ 3072) (hw : mWd D cy (mAd bs) bs true mN σ s.heap H locs) (hl : lv_has ls 4 (lLv b bs i)) (hi : i + 6 ≤ L) (r : Rel σ pp ss N) (hO : Own σ) (hN : 0 ≤ N ∧ N ≤ 10000) (hR0 : 2000 ≤ R.frames ∧ 80000 ≤ R.locals) (hRc : cells ≤ R.cells ∧ slots ≤ R.slots)
    (kk : ∀ (σ' : mMem) (H1 : Heap) (locs1 : List Loc) (p' s' : Nat), mWd D cy (mAd bs) bs true mN σ' s.heap H1 locs1 → Rel σ' p' s' (N + 1) → Own σ' → W p l e R s m args below meth c H1 locs1 cells slots Q (F0 m 1062 ls [])) : W p l e R s m args below meth c H locs cells slots Q (F0 m 397 ls []) := by
  obtain ⟨hx, hb, -, -, -⟩ := X.1
  obtain ⟨v, σ1, σ2, p', s', g1, g2, g3⟩ := a_box (F := 2000) (x := (xs (i + 1)).toInt) (y := (xs (i + 2)).toInt) (l_i32 _) (l_i32 _) r
  have o2 : Own σ2 := fun k hk => by rw [f_X12_box g2 15 k (by unfold T_X12_box; first | exact not_false | omega), f_X11_box g1 15 k (by unfold T_X11_box; first | exact not_false | omega)]; exact hO k hk
  refine lv_aload_n hx hb dL_law_397 rfl (lv_at hl 1 rfl) ?_
  refine l_arg (j := 1) rfl X hX hbl hbA hw.2.2.1 hl (by omega) hL dL_law_398 dL_law_399 dL_law_400 dL_law_401 dL_law_402 ?_
  refine l_arg (j := 2) rfl X hX hbl hbA hw.2.2.1 hl (by omega) hL dL_law_403 dL_law_404 dL_law_405 dL_law_406 dL_law_407 ?_
  refine l_call (rest := []) [.int (mI (xs (i + 1)).toInt), .int (mI (xs (i + 2)).toInt)] X hw v σ1 (c_X11_box l D cy (mAd bs) bs 2000 (xs (i + 1)).toInt (xs (i + 2)).toInt _ v σ1 g1) sh_0 rfl (by decide) rfl km_X11_box kv_X11_box lm_L_47 dL_law_408 hl.1 rfl rfl (Nat.le_of_ble_eq_true rfl) ⟨by omega, by omega⟩ hRc (fun H locs hw => ?_)
  refine lv_aload_n hx hb dL_law_411 rfl (lv_at hl 2 rfl) ?_
  refine l_arg (j := 1) rfl X hX hbl hbA hw.2.2.1 hl (by omega) hL dL_law_412 dL_law_413 dL_law_414 dL_law_415 dL_law_416 ?_
  refine l_arg (j := 2) rfl X hX hbl hbA hw.2.2.1 hl (by omega) hL dL_law_417 dL_law_418 dL_law_419 dL_law_420 dL_law_421 ?_
  refine l_call (rest := [.int (mI v)]) [.int (mI (xs (i + 1)).toInt), .int (mI (xs (i + 2)).toInt)] X hw v σ2 (c_X12_box l D cy (mAd bs) bs 2000 (xs (i + 1)).toInt (xs (i + 2)).toInt _ v σ2 g2) sh_86 rfl (by decide) rfl km_X12_box kv_X12_box lm_L_50 dL_law_422 hl.1 rfl rfl (Nat.le_of_ble_eq_true rfl) ⟨by omega, by omega⟩ hRc (fun H locs hw => ?_)
  refine lv_icmp_eq (tgt := 1062) hx hb dL_law_425 (by decide) (fun _ => ?_) (fun q => absurd rfl q)
  exact kk σ2 H locs p' s' hw g3 o2
theorem lc_8 {pp ss : Nat} {N : Int} (X : mCx p m c code 4 s args RL meth D cy ret) (hX : va_X b L xs s s.heap) (hbl : b < s.heap.size) (hbA : ¬ mA bs b) (hL : L ≤ 3072) (hw : mWd D cy (mAd bs) bs true mN σ s.heap H locs) (hl : lv_has ls 4 (lLv b bs i)) (hi : i + 6 ≤ L) (r : Rel σ pp ss N) (hO : Own σ) (hN : 0 ≤ N ∧ N ≤ 10000) (hR0 : 2000 ≤ R.frames ∧ 80000 ≤ R.locals) (hRc : cells ≤ R.cells ∧ slots ≤ R.slots)
    (kk : ∀ (σ' : mMem) (H1 : Heap) (locs1 : List Loc) (p' s' : Nat), mWd D cy (mAd bs) bs true mN σ' s.heap H1 locs1 → Rel σ' p' s' (N + 1) → Own σ' → W p l e R s m args below meth c H1 locs1 cells slots Q (F0 m 1062 ls [])) : W p l e R s m args below meth c H locs cells slots Q (F0 m 430 ls []) := by
  obtain ⟨hx, hb, -, -, -⟩ := X.1
  obtain ⟨v, σ1, σ2, p', s', g1, g2, g3⟩ := a_sees (F := 2000) (x := (xs (i + 1)).toInt) (y := (xs (i + 2)).toInt) (l_i32 _) (l_i32 _) r
  have o2 : Own σ2 := fun k hk => by rw [f_X12_sees g2 15 k (by unfold T_X12_sees; first | exact not_false | omega), f_X11_sees g1 15 k (by unfold T_X11_sees; first | exact not_false | omega)]; exact hO k hk
  refine lv_aload_n hx hb dL_law_430 rfl (lv_at hl 1 rfl) ?_
  refine l_arg (j := 1) rfl X hX hbl hbA hw.2.2.1 hl (by omega) hL dL_law_431 dL_law_432 dL_law_433 dL_law_434 dL_law_435 ?_
  refine l_arg (j := 2) rfl X hX hbl hbA hw.2.2.1 hl (by omega) hL dL_law_436 dL_law_437 dL_law_438 dL_law_439 dL_law_440 ?_
  refine l_call (rest := []) [.int (mI (xs (i + 1)).toInt), .int (mI (xs (i + 2)).toInt)] X hw v σ1 (c_X11_sees l D cy (mAd bs) bs 2000 (xs (i + 1)).toInt (xs (i + 2)).toInt _ v σ1 g1) sh_0 rfl (by decide) rfl km_X11_sees kv_X11_sees lm_L_51 dL_law_441 hl.1 rfl rfl (Nat.le_of_ble_eq_true rfl) ⟨by omega, by omega⟩ hRc (fun H locs hw => ?_)
  refine lv_aload_n hx hb dL_law_444 rfl (lv_at hl 2 rfl) ?_
  refine l_arg (j := 1) rfl X hX hbl hbA hw.2.2.1 hl (by omega) hL dL_law_445 dL_law_446 dL_law_447 dL_law_448 dL_law_449 ?_
  refine l_arg (j := 2) rfl X hX hbl hbA hw.2.2.1 hl (by omega) hL dL_law_450 dL_law_451 dL_law_452 dL_law_453 dL_law_454 ?_
  refine l_call (rest := [.int (mI v)]) [.int (mI (xs (i + 1)).toInt), .int (mI (xs (i + 2)).toInt)] X hw v σ2 (c_X12_sees l D cy (mAd bs) bs 2000 (xs (i + 1)).toInt (xs (i + 2)).toInt _ v σ2 g2) sh_86 rfl (by decide) rfl km_X12_sees kv_X12_sees lm_L_54 dL_law_455 hl.1 rfl rfl (Nat.le_of_ble_eq_true rfl) ⟨by omega, by omega⟩ hRc (fun H locs hw => ?_)
  refine lv_icmp_eq (tgt := 1062) hx hb dL_law_458 (by decide) (fun _ => ?_) (fun q => absurd rfl q)
  exact kk σ2 H locs p' s' hw g3 o2
theorem lc_9 {pp ss : Nat} {N : Int} (X : mCx p m c code 4 s args RL meth D cy ret) (hX : va_X b L xs s s.heap) (hbl : b < s.heap.size) (hbA : ¬ mA bs b) (hL : L ≤ 3072) (hw : mWd D cy (mAd bs) bs true mN σ s.heap H locs) (hl : lv_has ls 4 (lLv b bs i)) (hi : i + 6 ≤ L) (r : Rel σ pp ss N) (hO : Own σ) (hN : 0 ≤ N ∧ N ≤ 10000) (hR0 : 2000 ≤ R.frames ∧ 80000 ≤ R.locals) (hRc : cells ≤ R.cells ∧ slots ≤ R.slots)
    (kk : ∀ (σ' : mMem) (H1 : Heap) (locs1 : List Loc) (p' s' : Nat), mWd D cy (mAd bs) bs true mN σ' s.heap H1 locs1 → Rel σ' p' s' (N + 1) → Own σ' → W p l e R s m args below meth c H1 locs1 cells slots Q (F0 m 1062 ls [])) : W p l e R s m args below meth c H locs cells slots Q (F0 m 463 ls []) := by
  obtain ⟨hx, hb, -, -, -⟩ := X.1
  obtain ⟨v, σ1, σ2, p', s', g1, g2, g3⟩ := a_later (F := 2000) (x := (xs (i + 1)).toInt) (y := (xs (i + 2)).toInt) (z := (xs (i + 3)).toInt) (Nat.le_refl _) (l_i32 _) (l_i32 _) (l_i32 _) r
  have o2 : Own σ2 := fun k hk => by rw [f_X12_later g2 15 k (by unfold T_X12_later; first | exact not_false | omega), f_X11_later g1 15 k (by unfold T_X11_later; first | exact not_false | omega)]; exact hO k hk
  refine lv_aload_n hx hb dL_law_463 rfl (lv_at hl 1 rfl) ?_
  refine l_arg (j := 1) rfl X hX hbl hbA hw.2.2.1 hl (by omega) hL dL_law_464 dL_law_465 dL_law_466 dL_law_467 dL_law_468 ?_
  refine l_arg (j := 2) rfl X hX hbl hbA hw.2.2.1 hl (by omega) hL dL_law_469 dL_law_470 dL_law_471 dL_law_472 dL_law_473 ?_
  refine l_arg (j := 3) rfl X hX hbl hbA hw.2.2.1 hl (by omega) hL dL_law_474 dL_law_475 dL_law_476 dL_law_477 dL_law_478 ?_
  refine l_call (rest := []) [.int (mI (xs (i + 1)).toInt), .int (mI (xs (i + 2)).toInt), .int (mI (xs (i + 3)).toInt)] X hw v σ1 (c_X11_later l D cy (mAd bs) bs 2000 (xs (i + 1)).toInt (xs (i + 2)).toInt (xs (i + 3)).toInt _ v σ1 g1) sh_0 rfl (by decide) rfl km_X11_later kv_X11_later lm_L_55 dL_law_479 hl.1 rfl rfl (Nat.le_of_ble_eq_true rfl) ⟨by omega, by omega⟩ hRc (fun H locs hw => ?_)
  refine lv_aload_n hx hb dL_law_482 rfl (lv_at hl 2 rfl) ?_
  refine l_arg (j := 1) rfl X hX hbl hbA hw.2.2.1 hl (by omega) hL dL_law_483 dL_law_484 dL_law_485 dL_law_486 dL_law_487 ?_
  refine l_arg (j := 2) rfl X hX hbl hbA hw.2.2.1 hl (by omega) hL dL_law_488 dL_law_489 dL_law_490 dL_law_491 dL_law_492 ?_
  refine l_arg (j := 3) rfl X hX hbl hbA hw.2.2.1 hl (by omega) hL dL_law_493 dL_law_494 dL_law_495 dL_law_496 dL_law_497 ?_
  refine l_call (rest := [.int (mI v)]) [.int (mI (xs (i + 1)).toInt), .int (mI (xs (i + 2)).toInt), .int (mI (xs (i + 3)).toInt)] X hw v σ2 (c_X12_later l D cy (mAd bs) bs 2000 (xs (i + 1)).toInt (xs (i + 2)).toInt (xs (i + 3)).toInt _ v σ2 g2) sh_86 rfl (by decide) rfl km_X12_later kv_X12_later lm_L_58 dL_law_498 hl.1 rfl rfl (Nat.le_of_ble_eq_true rfl) ⟨by omega, by omega⟩ hRc (fun H locs hw => ?_)
  refine lv_icmp_eq (tgt := 1062) hx hb dL_law_501 (by decide) (fun _ => ?_) (fun q => absurd rfl q)
  exact kk σ2 H locs p' s' hw g3 o2
theorem lc_10 {pp ss : Nat} {N : Int} (X : mCx p m c code 4 s args RL meth D cy ret) (hX : va_X b L xs s s.heap) (hbl : b < s.heap.size) (hbA : ¬ mA bs b) (hL : L ≤ 3072) (hw : mWd D cy (mAd bs) bs true mN σ s.heap H locs) (hl : lv_has ls 4 (lLv b bs i)) (hi : i + 6 ≤ L) (r : Rel σ pp ss N) (hO : Own σ) (hN : 0 ≤ N ∧ N ≤ 10000) (hR0 : 2000 ≤ R.frames ∧ 80000 ≤ R.locals) (hRc : cells ≤ R.cells ∧ slots ≤ R.slots)
    (kk : ∀ (σ' : mMem) (H1 : Heap) (locs1 : List Loc) (p' s' : Nat), mWd D cy (mAd bs) bs true mN σ' s.heap H1 locs1 → Rel σ' p' s' (N + 1) → Own σ' → W p l e R s m args below meth c H1 locs1 cells slots Q (F0 m 1062 ls [])) : W p l e R s m args below meth c H locs cells slots Q (F0 m 506 ls []) := by
  obtain ⟨hx, hb, -, -, -⟩ := X.1
  obtain ⟨v, σ1, σ2, p', s', g1, g2, g3⟩ := a_round (F := 2000) (x := (xs (i + 1)).toInt) (Nat.le_refl _) (l_i32 _) r
  have o2 : Own σ2 := fun k hk => by rw [f_X12_round g2 15 k (by unfold T_X12_round; first | exact not_false | omega), f_X11_round g1 15 k (by unfold T_X11_round; first | exact not_false | omega)]; exact hO k hk
  refine lv_aload_n hx hb dL_law_506 rfl (lv_at hl 1 rfl) ?_
  refine l_arg (j := 1) rfl X hX hbl hbA hw.2.2.1 hl (by omega) hL dL_law_507 dL_law_508 dL_law_509 dL_law_510 dL_law_511 ?_
  refine l_call (rest := []) [.int (mI (xs (i + 1)).toInt)] X hw v σ1 (c_X11_round l D cy (mAd bs) bs 2000 (xs (i + 1)).toInt _ v σ1 g1) sh_0 rfl (by decide) rfl km_X11_round kv_X11_round lm_L_59 dL_law_512 hl.1 rfl rfl (Nat.le_of_ble_eq_true rfl) ⟨by omega, by omega⟩ hRc (fun H locs hw => ?_)
  refine lv_aload_n hx hb dL_law_515 rfl (lv_at hl 2 rfl) ?_
  refine l_arg (j := 1) rfl X hX hbl hbA hw.2.2.1 hl (by omega) hL dL_law_516 dL_law_517 dL_law_518 dL_law_519 dL_law_520 ?_
  refine l_call (rest := [.int (mI v)]) [.int (mI (xs (i + 1)).toInt)] X hw v σ2 (c_X12_round l D cy (mAd bs) bs 2000 (xs (i + 1)).toInt _ v σ2 g2) sh_86 rfl (by decide) rfl km_X12_round kv_X12_round lm_L_62 dL_law_521 hl.1 rfl rfl (Nat.le_of_ble_eq_true rfl) ⟨by omega, by omega⟩ hRc (fun H locs hw => ?_)
  refine lv_icmp_eq (tgt := 1062) hx hb dL_law_524 (by decide) (fun _ => ?_) (fun q => absurd rfl q)
  exact kk σ2 H locs p' s' hw g3 o2
theorem lc_11 {pp ss : Nat} {N : Int} (X : mCx p m c code 4 s args RL meth D cy ret) (hX : va_X b L xs s s.heap) (hbl : b < s.heap.size) (hbA : ¬ mA bs b) (hL : L ≤ 3072) (hw : mWd D cy (mAd bs) bs true mN σ s.heap H locs) (hl : lv_has ls 4 (lLv b bs i)) (hi : i + 6 ≤ L) (r : Rel σ pp ss N) (hO : Own σ) (hN : 0 ≤ N ∧ N ≤ 10000) (hR0 : 2000 ≤ R.frames ∧ 80000 ≤ R.locals) (hRc : cells ≤ R.cells ∧ slots ≤ R.slots)
    (kk : ∀ (σ' : mMem) (H1 : Heap) (locs1 : List Loc) (p' s' : Nat), mWd D cy (mAd bs) bs true mN σ' s.heap H1 locs1 → Rel σ' p' s' (N + 1) → Own σ' → W p l e R s m args below meth c H1 locs1 cells slots Q (F0 m 1062 ls [])) : W p l e R s m args below meth c H locs cells slots Q (F0 m 529 ls []) := by
  obtain ⟨hx, hb, -, -, -⟩ := X.1
  obtain ⟨v, σ1, σ2, p', s', g1, g2, g3⟩ := a_loses (F := 2000) (x := (xs (i + 1)).toInt) (v := (xs (i + 2)).toInt) (Nat.le_refl _) (l_i32 _) (l_i32 _) r
  have o2 : Own σ2 := fun k hk => by rw [f_X12_loses g2 15 k (by unfold T_X12_loses; first | exact not_false | omega), f_X11_loses g1 15 k (by unfold T_X11_loses; first | exact not_false | omega)]; exact hO k hk
  refine lv_aload_n hx hb dL_law_529 rfl (lv_at hl 1 rfl) ?_
  refine l_arg (j := 1) rfl X hX hbl hbA hw.2.2.1 hl (by omega) hL dL_law_530 dL_law_531 dL_law_532 dL_law_533 dL_law_534 ?_
  refine l_arg (j := 2) rfl X hX hbl hbA hw.2.2.1 hl (by omega) hL dL_law_535 dL_law_536 dL_law_537 dL_law_538 dL_law_539 ?_
  refine l_call (rest := []) [.int (mI (xs (i + 1)).toInt), .int (mI (xs (i + 2)).toInt)] X hw v σ1 (c_X11_loses l D cy (mAd bs) bs 2000 (xs (i + 1)).toInt (xs (i + 2)).toInt _ v σ1 g1) sh_0 rfl (by decide) rfl km_X11_loses kv_X11_loses lm_L_63 dL_law_540 hl.1 rfl rfl (Nat.le_of_ble_eq_true rfl) ⟨by omega, by omega⟩ hRc (fun H locs hw => ?_)
  refine lv_aload_n hx hb dL_law_543 rfl (lv_at hl 2 rfl) ?_
  refine l_arg (j := 1) rfl X hX hbl hbA hw.2.2.1 hl (by omega) hL dL_law_544 dL_law_545 dL_law_546 dL_law_547 dL_law_548 ?_
  refine l_arg (j := 2) rfl X hX hbl hbA hw.2.2.1 hl (by omega) hL dL_law_549 dL_law_550 dL_law_551 dL_law_552 dL_law_553 ?_
  refine l_call (rest := [.int (mI v)]) [.int (mI (xs (i + 1)).toInt), .int (mI (xs (i + 2)).toInt)] X hw v σ2 (c_X12_loses l D cy (mAd bs) bs 2000 (xs (i + 1)).toInt (xs (i + 2)).toInt _ v σ2 g2) sh_86 rfl (by decide) rfl km_X12_loses kv_X12_loses lm_L_66 dL_law_554 hl.1 rfl rfl (Nat.le_of_ble_eq_true rfl) ⟨by omega, by omega⟩ hRc (fun H locs hw => ?_)
  refine lv_icmp_eq (tgt := 1062) hx hb dL_law_557 (by decide) (fun _ => ?_) (fun q => absurd rfl q)
  exact kk σ2 H locs p' s' hw g3 o2
theorem lc_12 {pp ss : Nat} {N : Int} (X : mCx p m c code 4 s args RL meth D cy ret) (hX : va_X b L xs s s.heap) (hbl : b < s.heap.size) (hbA : ¬ mA bs b) (hL : L ≤ 3072) (hw : mWd D cy (mAd bs) bs true mN σ s.heap H locs) (hl : lv_has ls 4 (lLv b bs i)) (hi : i + 6 ≤ L) (r : Rel σ pp ss N) (hO : Own σ) (hN : 0 ≤ N ∧ N ≤ 10000) (hR0 : 2000 ≤ R.frames ∧ 80000 ≤ R.locals) (hRc : cells ≤ R.cells ∧ slots ≤ R.slots)
    (kk : ∀ (σ' : mMem) (H1 : Heap) (locs1 : List Loc) (p' s' : Nat), mWd D cy (mAd bs) bs true mN σ' s.heap H1 locs1 → Rel σ' p' s' (N + 1) → Own σ' → W p l e R s m args below meth c H1 locs1 cells slots Q (F0 m 1062 ls [])) : W p l e R s m args below meth c H locs cells slots Q (F0 m 562 ls []) := by
  obtain ⟨hx, hb, -, -, -⟩ := X.1
  obtain ⟨v, σ1, σ2, p', s', g1, g2, g3⟩ := a_jam (F := 2000)  (Nat.le_refl _) r
  have o2 : Own σ2 := fun k hk => by rw [f_X12_jam g2 15 k (by unfold T_X12_jam; first | exact not_false | omega), f_X11_jam g1 15 k (by unfold T_X11_jam; first | exact not_false | omega)]; exact hO k hk
  refine lv_aload_n hx hb dL_law_562 rfl (lv_at hl 1 rfl) ?_
  refine l_call (rest := []) [] X hw v σ1 (c_X11_jam l D cy (mAd bs) bs 2000  _ v σ1 g1) sh_0 rfl (by decide) rfl km_X11_jam kv_X11_jam lm_L_67 dL_law_563 hl.1 rfl rfl (Nat.le_of_ble_eq_true rfl) ⟨by omega, by omega⟩ hRc (fun H locs hw => ?_)
  refine lv_aload_n hx hb dL_law_566 rfl (lv_at hl 2 rfl) ?_
  refine l_call (rest := [.int (mI v)]) [] X hw v σ2 (c_X12_jam l D cy (mAd bs) bs 2000  _ v σ2 g2) sh_86 rfl (by decide) rfl km_X12_jam kv_X12_jam lm_L_70 dL_law_567 hl.1 rfl rfl (Nat.le_of_ble_eq_true rfl) ⟨by omega, by omega⟩ hRc (fun H locs hw => ?_)
  refine lv_icmp_eq (tgt := 1062) hx hb dL_law_570 (by decide) (fun _ => ?_) (fun q => absurd rfl q)
  exact kk σ2 H locs p' s' hw g3 o2
theorem lc_13 {pp ss : Nat} {N : Int} (X : mCx p m c code 4 s args RL meth D cy ret) (hX : va_X b L xs s s.heap) (hbl : b < s.heap.size) (hbA : ¬ mA bs b) (hL : L ≤ 3072) (hw : mWd D cy (mAd bs) bs true mN σ s.heap H locs) (hl : lv_has ls 4 (lLv b bs i)) (hi : i + 6 ≤ L) (r : Rel σ pp ss N) (hO : Own σ) (hN : 0 ≤ N ∧ N ≤ 10000) (hR0 : 2000 ≤ R.frames ∧ 80000 ≤ R.locals) (hRc : cells ≤ R.cells ∧ slots ≤ R.slots)
    (kk : ∀ (σ' : mMem) (H1 : Heap) (locs1 : List Loc) (p' s' : Nat), mWd D cy (mAd bs) bs true mN σ' s.heap H1 locs1 → Rel σ' p' s' (N + 1) → Own σ' → W p l e R s m args below meth c H1 locs1 cells slots Q (F0 m 1062 ls [])) : W p l e R s m args below meth c H locs cells slots Q (F0 m 575 ls []) := by
  obtain ⟨hx, hb, -, -, -⟩ := X.1
  obtain ⟨v, σ1, σ2, p', s', g1, g2, g3⟩ := a_gap (F := 2000) (x := (xs (i + 1)).toInt) (y := (xs (i + 2)).toInt) (z := (xs (i + 3)).toInt) (Nat.le_refl _) (l_i32 _) (l_i32 _) (l_i32 _) r
  have o2 : Own σ2 := fun k hk => by rw [f_X12_gap g2 15 k (by unfold T_X12_gap; first | exact not_false | omega), f_X11_gap g1 15 k (by unfold T_X11_gap; first | exact not_false | omega)]; exact hO k hk
  refine lv_aload_n hx hb dL_law_575 rfl (lv_at hl 1 rfl) ?_
  refine l_arg (j := 1) rfl X hX hbl hbA hw.2.2.1 hl (by omega) hL dL_law_576 dL_law_577 dL_law_578 dL_law_579 dL_law_580 ?_
  refine l_arg (j := 2) rfl X hX hbl hbA hw.2.2.1 hl (by omega) hL dL_law_581 dL_law_582 dL_law_583 dL_law_584 dL_law_585 ?_
  refine l_arg (j := 3) rfl X hX hbl hbA hw.2.2.1 hl (by omega) hL dL_law_586 dL_law_587 dL_law_588 dL_law_589 dL_law_590 ?_
  refine l_call (rest := []) [.int (mI (xs (i + 1)).toInt), .int (mI (xs (i + 2)).toInt), .int (mI (xs (i + 3)).toInt)] X hw v σ1 (c_X11_gap l D cy (mAd bs) bs 2000 (xs (i + 1)).toInt (xs (i + 2)).toInt (xs (i + 3)).toInt _ v σ1 g1) sh_0 rfl (by decide) rfl km_X11_gap kv_X11_gap lm_L_71 dL_law_591 hl.1 rfl rfl (Nat.le_of_ble_eq_true rfl) ⟨by omega, by omega⟩ hRc (fun H locs hw => ?_)
  refine lv_aload_n hx hb dL_law_594 rfl (lv_at hl 2 rfl) ?_
  refine l_arg (j := 1) rfl X hX hbl hbA hw.2.2.1 hl (by omega) hL dL_law_595 dL_law_596 dL_law_597 dL_law_598 dL_law_599 ?_
  refine l_arg (j := 2) rfl X hX hbl hbA hw.2.2.1 hl (by omega) hL dL_law_600 dL_law_601 dL_law_602 dL_law_603 dL_law_604 ?_
  refine l_arg (j := 3) rfl X hX hbl hbA hw.2.2.1 hl (by omega) hL dL_law_605 dL_law_606 dL_law_607 dL_law_608 dL_law_609 ?_
  refine l_call (rest := [.int (mI v)]) [.int (mI (xs (i + 1)).toInt), .int (mI (xs (i + 2)).toInt), .int (mI (xs (i + 3)).toInt)] X hw v σ2 (c_X12_gap l D cy (mAd bs) bs 2000 (xs (i + 1)).toInt (xs (i + 2)).toInt (xs (i + 3)).toInt _ v σ2 g2) sh_86 rfl (by decide) rfl km_X12_gap kv_X12_gap lm_L_74 dL_law_610 hl.1 rfl rfl (Nat.le_of_ble_eq_true rfl) ⟨by omega, by omega⟩ hRc (fun H locs hw => ?_)
  refine lv_icmp_eq (tgt := 1062) hx hb dL_law_613 (by decide) (fun _ => ?_) (fun q => absurd rfl q)
  exact kk σ2 H locs p' s' hw g3 o2
theorem lc_14 {pp ss : Nat} {N : Int} (X : mCx p m c code 4 s args RL meth D cy ret) (hX : va_X b L xs s s.heap) (hbl : b < s.heap.size) (hbA : ¬ mA bs b) (hL : L ≤ 3072) (hw : mWd D cy (mAd bs) bs true mN σ s.heap H locs) (hl : lv_has ls 4 (lLv b bs i)) (hi : i + 6 ≤ L) (r : Rel σ pp ss N) (hO : Own σ) (hN : 0 ≤ N ∧ N ≤ 10000) (hR0 : 2000 ≤ R.frames ∧ 80000 ≤ R.locals) (hRc : cells ≤ R.cells ∧ slots ≤ R.slots)
    (kk : ∀ (σ' : mMem) (H1 : Heap) (locs1 : List Loc) (p' s' : Nat), mWd D cy (mAd bs) bs true mN σ' s.heap H1 locs1 → Rel σ' p' s' (N + 1) → Own σ' → W p l e R s m args below meth c H1 locs1 cells slots Q (F0 m 1062 ls [])) : W p l e R s m args below meth c H locs cells slots Q (F0 m 618 ls []) := by
  obtain ⟨hx, hb, -, -, -⟩ := X.1
  obtain ⟨v, σ1, σ2, p', s', g1, g2, g3⟩ := a_tuned (F := 2000) (x := (xs (i + 1)).toInt) (y := (xs (i + 2)).toInt) (z := (xs (i + 3)).toInt) (Nat.le_refl _) (l_i32 _) (l_i32 _) (l_i32 _) r
  have o2 : Own σ2 := fun k hk => by rw [f_X12_tuned g2 15 k (by unfold T_X12_tuned; first | exact not_false | omega), f_X11_tuned g1 15 k (by unfold T_X11_tuned; first | exact not_false | omega)]; exact hO k hk
  refine lv_aload_n hx hb dL_law_618 rfl (lv_at hl 1 rfl) ?_
  refine l_arg (j := 1) rfl X hX hbl hbA hw.2.2.1 hl (by omega) hL dL_law_619 dL_law_620 dL_law_621 dL_law_622 dL_law_623 ?_
  refine l_arg (j := 2) rfl X hX hbl hbA hw.2.2.1 hl (by omega) hL dL_law_624 dL_law_625 dL_law_626 dL_law_627 dL_law_628 ?_
  refine l_arg (j := 3) rfl X hX hbl hbA hw.2.2.1 hl (by omega) hL dL_law_629 dL_law_630 dL_law_631 dL_law_632 dL_law_633 ?_
  refine l_call (rest := []) [.int (mI (xs (i + 1)).toInt), .int (mI (xs (i + 2)).toInt), .int (mI (xs (i + 3)).toInt)] X hw v σ1 (c_X11_tuned l D cy (mAd bs) bs 2000 (xs (i + 1)).toInt (xs (i + 2)).toInt (xs (i + 3)).toInt _ v σ1 g1) sh_0 rfl (by decide) rfl km_X11_tuned kv_X11_tuned lm_L_75 dL_law_634 hl.1 rfl rfl (Nat.le_of_ble_eq_true rfl) ⟨by omega, by omega⟩ hRc (fun H locs hw => ?_)
  refine lv_aload_n hx hb dL_law_637 rfl (lv_at hl 2 rfl) ?_
  refine l_arg (j := 1) rfl X hX hbl hbA hw.2.2.1 hl (by omega) hL dL_law_638 dL_law_639 dL_law_640 dL_law_641 dL_law_642 ?_
  refine l_arg (j := 2) rfl X hX hbl hbA hw.2.2.1 hl (by omega) hL dL_law_643 dL_law_644 dL_law_645 dL_law_646 dL_law_647 ?_
  refine l_arg (j := 3) rfl X hX hbl hbA hw.2.2.1 hl (by omega) hL dL_law_648 dL_law_649 dL_law_650 dL_law_651 dL_law_652 ?_
  refine l_call (rest := [.int (mI v)]) [.int (mI (xs (i + 1)).toInt), .int (mI (xs (i + 2)).toInt), .int (mI (xs (i + 3)).toInt)] X hw v σ2 (c_X12_tuned l D cy (mAd bs) bs 2000 (xs (i + 1)).toInt (xs (i + 2)).toInt (xs (i + 3)).toInt _ v σ2 g2) sh_86 rfl (by decide) rfl km_X12_tuned kv_X12_tuned lm_L_78 dL_law_653 hl.1 rfl rfl (Nat.le_of_ble_eq_true rfl) ⟨by omega, by omega⟩ hRc (fun H locs hw => ?_)
  refine lv_icmp_eq (tgt := 1062) hx hb dL_law_656 (by decide) (fun _ => ?_) (fun q => absurd rfl q)
  exact kk σ2 H locs p' s' hw g3 o2
theorem lc_15 {pp ss : Nat} {N : Int} (X : mCx p m c code 4 s args RL meth D cy ret) (hX : va_X b L xs s s.heap) (hbl : b < s.heap.size) (hbA : ¬ mA bs b) (hL : L ≤ 3072) (hw : mWd D cy (mAd bs) bs true mN σ s.heap H locs) (hl : lv_has ls 4 (lLv b bs i)) (hi : i + 6 ≤ L) (r : Rel σ pp ss N) (hO : Own σ) (hN : 0 ≤ N ∧ N ≤ 10000) (hR0 : 2000 ≤ R.frames ∧ 80000 ≤ R.locals) (hRc : cells ≤ R.cells ∧ slots ≤ R.slots)
    (kk : ∀ (σ' : mMem) (H1 : Heap) (locs1 : List Loc) (p' s' : Nat), mWd D cy (mAd bs) bs true mN σ' s.heap H1 locs1 → Rel σ' p' s' (N + 1) → Own σ' → W p l e R s m args below meth c H1 locs1 cells slots Q (F0 m 1062 ls [])) : W p l e R s m args below meth c H locs cells slots Q (F0 m 661 ls []) := by
  obtain ⟨hx, hb, -, -, -⟩ := X.1
  obtain ⟨v, σ1, σ2, p', s', g1, g2, g3⟩ := a_found (F := 2000) (x := (xs (i + 1)).toInt) (Nat.le_refl _) (l_i32 _) r
  have o2 : Own σ2 := fun k hk => by rw [f_X12_found g2 15 k (by unfold T_X12_found; first | exact not_false | omega), f_X11_found g1 15 k (by unfold T_X11_found; first | exact not_false | omega)]; exact hO k hk
  refine lv_aload_n hx hb dL_law_661 rfl (lv_at hl 1 rfl) ?_
  refine l_arg (j := 1) rfl X hX hbl hbA hw.2.2.1 hl (by omega) hL dL_law_662 dL_law_663 dL_law_664 dL_law_665 dL_law_666 ?_
  refine l_call (rest := []) [.int (mI (xs (i + 1)).toInt)] X hw v σ1 (c_X11_found l D cy (mAd bs) bs 2000 (xs (i + 1)).toInt _ v σ1 g1) sh_0 rfl (by decide) rfl km_X11_found kv_X11_found lm_L_79 dL_law_667 hl.1 rfl rfl (Nat.le_of_ble_eq_true rfl) ⟨by omega, by omega⟩ hRc (fun H locs hw => ?_)
  refine lv_aload_n hx hb dL_law_670 rfl (lv_at hl 2 rfl) ?_
  refine l_arg (j := 1) rfl X hX hbl hbA hw.2.2.1 hl (by omega) hL dL_law_671 dL_law_672 dL_law_673 dL_law_674 dL_law_675 ?_
  refine l_call (rest := [.int (mI v)]) [.int (mI (xs (i + 1)).toInt)] X hw v σ2 (c_X12_found l D cy (mAd bs) bs 2000 (xs (i + 1)).toInt _ v σ2 g2) sh_86 rfl (by decide) rfl km_X12_found kv_X12_found lm_L_82 dL_law_676 hl.1 rfl rfl (Nat.le_of_ble_eq_true rfl) ⟨by omega, by omega⟩ hRc (fun H locs hw => ?_)
  refine lv_icmp_eq (tgt := 1062) hx hb dL_law_679 (by decide) (fun _ => ?_) (fun q => absurd rfl q)
  exact kk σ2 H locs p' s' hw g3 o2
theorem lc_16 {pp ss : Nat} {N : Int} (X : mCx p m c code 4 s args RL meth D cy ret) (hX : va_X b L xs s s.heap) (hbl : b < s.heap.size) (hbA : ¬ mA bs b) (hL : L ≤ 3072) (hw : mWd D cy (mAd bs) bs true mN σ s.heap H locs) (hl : lv_has ls 4 (lLv b bs i)) (hi : i + 6 ≤ L) (r : Rel σ pp ss N) (hO : Own σ) (hN : 0 ≤ N ∧ N ≤ 10000) (hR0 : 2000 ≤ R.frames ∧ 80000 ≤ R.locals) (hRc : cells ≤ R.cells ∧ slots ≤ R.slots)
    (kk : ∀ (σ' : mMem) (H1 : Heap) (locs1 : List Loc) (p' s' : Nat), mWd D cy (mAd bs) bs true mN σ' s.heap H1 locs1 → Rel σ' p' s' (N + 1) → Own σ' → W p l e R s m args below meth c H1 locs1 cells slots Q (F0 m 1062 ls [])) : W p l e R s m args below meth c H locs cells slots Q (F0 m 684 ls []) := by
  obtain ⟨hx, hb, -, -, -⟩ := X.1
  obtain ⟨v, σ1, σ2, p', s', g1, g2, g3⟩ := a_spaced (F := 2000) (x := (xs (i + 1)).toInt) (Nat.le_refl _) (l_i32 _) r
  have o2 : Own σ2 := fun k hk => by rw [f_X12_spaced g2 15 k (by unfold T_X12_spaced; first | exact not_false | omega), f_X11_spaced g1 15 k (by unfold T_X11_spaced; first | exact not_false | omega)]; exact hO k hk
  refine lv_aload_n hx hb dL_law_684 rfl (lv_at hl 1 rfl) ?_
  refine l_arg (j := 1) rfl X hX hbl hbA hw.2.2.1 hl (by omega) hL dL_law_685 dL_law_686 dL_law_687 dL_law_688 dL_law_689 ?_
  refine l_call (rest := []) [.int (mI (xs (i + 1)).toInt)] X hw v σ1 (c_X11_spaced l D cy (mAd bs) bs 2000 (xs (i + 1)).toInt _ v σ1 g1) sh_0 rfl (by decide) rfl km_X11_spaced kv_X11_spaced lm_L_83 dL_law_690 hl.1 rfl rfl (Nat.le_of_ble_eq_true rfl) ⟨by omega, by omega⟩ hRc (fun H locs hw => ?_)
  refine lv_aload_n hx hb dL_law_693 rfl (lv_at hl 2 rfl) ?_
  refine l_arg (j := 1) rfl X hX hbl hbA hw.2.2.1 hl (by omega) hL dL_law_694 dL_law_695 dL_law_696 dL_law_697 dL_law_698 ?_
  refine l_call (rest := [.int (mI v)]) [.int (mI (xs (i + 1)).toInt)] X hw v σ2 (c_X12_spaced l D cy (mAd bs) bs 2000 (xs (i + 1)).toInt _ v σ2 g2) sh_86 rfl (by decide) rfl km_X12_spaced kv_X12_spaced lm_L_86 dL_law_699 hl.1 rfl rfl (Nat.le_of_ble_eq_true rfl) ⟨by omega, by omega⟩ hRc (fun H locs hw => ?_)
  refine lv_icmp_eq (tgt := 1062) hx hb dL_law_702 (by decide) (fun _ => ?_) (fun q => absurd rfl q)
  exact kk σ2 H locs p' s' hw g3 o2
theorem lc_17 {pp ss : Nat} {N : Int} (X : mCx p m c code 4 s args RL meth D cy ret) (hX : va_X b L xs s s.heap) (hbl : b < s.heap.size) (hbA : ¬ mA bs b) (hL : L ≤ 3072) (hw : mWd D cy (mAd bs) bs true mN σ s.heap H locs) (hl : lv_has ls 4 (lLv b bs i)) (hi : i + 6 ≤ L) (r : Rel σ pp ss N) (hO : Own σ) (hN : 0 ≤ N ∧ N ≤ 10000) (hR0 : 2000 ≤ R.frames ∧ 80000 ≤ R.locals) (hRc : cells ≤ R.cells ∧ slots ≤ R.slots)
    (kk : ∀ (σ' : mMem) (H1 : Heap) (locs1 : List Loc) (p' s' : Nat), mWd D cy (mAd bs) bs true mN σ' s.heap H1 locs1 → Rel σ' p' s' (N + 1) → Own σ' → W p l e R s m args below meth c H1 locs1 cells slots Q (F0 m 1062 ls [])) : W p l e R s m args below meth c H locs cells slots Q (F0 m 707 ls []) := by
  obtain ⟨hx, hb, -, -, -⟩ := X.1
  obtain ⟨v, σ1, σ2, p', s', g1, g2, g3⟩ := a_bright (F := 2000) (x := (xs (i + 1)).toInt) (Nat.le_refl _) (l_i32 _) r
  have o2 : Own σ2 := fun k hk => by rw [f_X12_bright g2 15 k (by unfold T_X12_bright; first | exact not_false | omega), f_X11_bright g1 15 k (by unfold T_X11_bright; first | exact not_false | omega)]; exact hO k hk
  refine lv_aload_n hx hb dL_law_707 rfl (lv_at hl 1 rfl) ?_
  refine l_arg (j := 1) rfl X hX hbl hbA hw.2.2.1 hl (by omega) hL dL_law_708 dL_law_709 dL_law_710 dL_law_711 dL_law_712 ?_
  refine l_call (rest := []) [.int (mI (xs (i + 1)).toInt)] X hw v σ1 (c_X11_bright l D cy (mAd bs) bs 2000 (xs (i + 1)).toInt _ v σ1 g1) sh_0 rfl (by decide) rfl km_X11_bright kv_X11_bright lm_L_87 dL_law_713 hl.1 rfl rfl (Nat.le_of_ble_eq_true rfl) ⟨by omega, by omega⟩ hRc (fun H locs hw => ?_)
  refine lv_aload_n hx hb dL_law_716 rfl (lv_at hl 2 rfl) ?_
  refine l_arg (j := 1) rfl X hX hbl hbA hw.2.2.1 hl (by omega) hL dL_law_717 dL_law_718 dL_law_719 dL_law_720 dL_law_721 ?_
  refine l_call (rest := [.int (mI v)]) [.int (mI (xs (i + 1)).toInt)] X hw v σ2 (c_X12_bright l D cy (mAd bs) bs 2000 (xs (i + 1)).toInt _ v σ2 g2) sh_86 rfl (by decide) rfl km_X12_bright kv_X12_bright lm_L_90 dL_law_722 hl.1 rfl rfl (Nat.le_of_ble_eq_true rfl) ⟨by omega, by omega⟩ hRc (fun H locs hw => ?_)
  refine lv_icmp_eq (tgt := 1062) hx hb dL_law_725 (by decide) (fun _ => ?_) (fun q => absurd rfl q)
  exact kk σ2 H locs p' s' hw g3 o2
theorem lc_18 {pp ss : Nat} {N : Int} (X : mCx p m c code 4 s args RL meth D cy ret) (hX : va_X b L xs s s.heap) (hbl : b < s.heap.size) (hbA : ¬ mA bs b) (hL : L ≤ 3072) (hw : mWd D cy (mAd bs) bs true mN σ s.heap H locs) (hl : lv_has ls 4 (lLv b bs i)) (hi : i + 6 ≤ L) (r : Rel σ pp ss N) (hO : Own σ) (hN : 0 ≤ N ∧ N ≤ 10000) (hR0 : 2000 ≤ R.frames ∧ 80000 ≤ R.locals) (hRc : cells ≤ R.cells ∧ slots ≤ R.slots)
    (kk : ∀ (σ' : mMem) (H1 : Heap) (locs1 : List Loc) (p' s' : Nat), mWd D cy (mAd bs) bs true mN σ' s.heap H1 locs1 → Rel σ' p' s' (N + 1) → Own σ' → W p l e R s m args below meth c H1 locs1 cells slots Q (F0 m 1062 ls [])) : W p l e R s m args below meth c H locs cells slots Q (F0 m 730 ls []) := by
  obtain ⟨hx, hb, -, -, -⟩ := X.1
  obtain ⟨v, σ1, σ2, p', s', g1, g2, g3⟩ := a_track (F := 2000)  (Nat.le_refl _) r
  have o2 : Own σ2 := fun k hk => by rw [f_X12_track g2 15 k (by unfold T_X12_track; first | exact not_false | omega), f_X11_track g1 15 k (by unfold T_X11_track; first | exact not_false | omega)]; exact hO k hk
  refine lv_aload_n hx hb dL_law_730 rfl (lv_at hl 1 rfl) ?_
  refine l_call (rest := []) [] X hw v σ1 (c_X11_track l D cy (mAd bs) bs 2000  _ v σ1 g1) sh_0 rfl (by decide) rfl km_X11_track kv_X11_track lm_L_91 dL_law_731 hl.1 rfl rfl (Nat.le_of_ble_eq_true rfl) ⟨by omega, by omega⟩ hRc (fun H locs hw => ?_)
  refine lv_aload_n hx hb dL_law_734 rfl (lv_at hl 2 rfl) ?_
  refine l_call (rest := [.int (mI v)]) [] X hw v σ2 (c_X12_track l D cy (mAd bs) bs 2000  _ v σ2 g2) sh_86 rfl (by decide) rfl km_X12_track kv_X12_track lm_L_94 dL_law_735 hl.1 rfl rfl (Nat.le_of_ble_eq_true rfl) ⟨by omega, by omega⟩ hRc (fun H locs hw => ?_)
  refine lv_icmp_eq (tgt := 1062) hx hb dL_law_738 (by decide) (fun _ => ?_) (fun q => absurd rfl q)
  exact kk σ2 H locs p' s' hw g3 o2
theorem lc_19 {pp ss : Nat} {N : Int} (X : mCx p m c code 4 s args RL meth D cy ret) (hX : va_X b L xs s s.heap) (hbl : b < s.heap.size) (hbA : ¬ mA bs b) (hL : L ≤ 3072) (hw : mWd D cy (mAd bs) bs true mN σ s.heap H locs) (hl : lv_has ls 4 (lLv b bs i)) (hi : i + 6 ≤ L) (r : Rel σ pp ss N) (hO : Own σ) (hN : 0 ≤ N ∧ N ≤ 10000) (hR0 : 2000 ≤ R.frames ∧ 80000 ≤ R.locals) (hRc : cells ≤ R.cells ∧ slots ≤ R.slots)
    (kk : ∀ (σ' : mMem) (H1 : Heap) (locs1 : List Loc) (p' s' : Nat), mWd D cy (mAd bs) bs true mN σ' s.heap H1 locs1 → Rel σ' p' s' (N + 1) → Own σ' → W p l e R s m args below meth c H1 locs1 cells slots Q (F0 m 1062 ls [])) : W p l e R s m args below meth c H locs cells slots Q (F0 m 743 ls []) := by
  obtain ⟨hx, hb, -, -, -⟩ := X.1
  obtain ⟨v, σ1, σ2, p', s', g1, g2, g3⟩ := a_wheel (F := 2000) (x := (xs (i + 1)).toInt) (y := (xs (i + 2)).toInt) (Nat.le_refl _) (l_i32 _) (l_i32 _) r
  have o2 : Own σ2 := fun k hk => by rw [f_X12_wheel g2 15 k (by unfold T_X12_wheel; first | exact not_false | omega), f_X11_wheel g1 15 k (by unfold T_X11_wheel; first | exact not_false | omega)]; exact hO k hk
  refine lv_aload_n hx hb dL_law_743 rfl (lv_at hl 1 rfl) ?_
  refine l_arg (j := 1) rfl X hX hbl hbA hw.2.2.1 hl (by omega) hL dL_law_744 dL_law_745 dL_law_746 dL_law_747 dL_law_748 ?_
  refine l_arg (j := 2) rfl X hX hbl hbA hw.2.2.1 hl (by omega) hL dL_law_749 dL_law_750 dL_law_751 dL_law_752 dL_law_753 ?_
  refine l_call (rest := []) [.int (mI (xs (i + 1)).toInt), .int (mI (xs (i + 2)).toInt)] X hw v σ1 (c_X11_wheel l D cy (mAd bs) bs 2000 (xs (i + 1)).toInt (xs (i + 2)).toInt _ v σ1 g1) sh_0 rfl (by decide) rfl km_X11_wheel kv_X11_wheel lm_L_95 dL_law_754 hl.1 rfl rfl (Nat.le_of_ble_eq_true rfl) ⟨by omega, by omega⟩ hRc (fun H locs hw => ?_)
  refine lv_aload_n hx hb dL_law_757 rfl (lv_at hl 2 rfl) ?_
  refine l_arg (j := 1) rfl X hX hbl hbA hw.2.2.1 hl (by omega) hL dL_law_758 dL_law_759 dL_law_760 dL_law_761 dL_law_762 ?_
  refine l_arg (j := 2) rfl X hX hbl hbA hw.2.2.1 hl (by omega) hL dL_law_763 dL_law_764 dL_law_765 dL_law_766 dL_law_767 ?_
  refine l_call (rest := [.int (mI v)]) [.int (mI (xs (i + 1)).toInt), .int (mI (xs (i + 2)).toInt)] X hw v σ2 (c_X12_wheel l D cy (mAd bs) bs 2000 (xs (i + 1)).toInt (xs (i + 2)).toInt _ v σ2 g2) sh_86 rfl (by decide) rfl km_X12_wheel kv_X12_wheel lm_L_98 dL_law_768 hl.1 rfl rfl (Nat.le_of_ble_eq_true rfl) ⟨by omega, by omega⟩ hRc (fun H locs hw => ?_)
  refine lv_icmp_eq (tgt := 1062) hx hb dL_law_771 (by decide) (fun _ => ?_) (fun q => absurd rfl q)
  exact kk σ2 H locs p' s' hw g3 o2
theorem lc_20 {pp ss : Nat} {N : Int} (X : mCx p m c code 4 s args RL meth D cy ret) (hX : va_X b L xs s s.heap) (hbl : b < s.heap.size) (hbA : ¬ mA bs b) (hL : L ≤ 3072) (hw : mWd D cy (mAd bs) bs true mN σ s.heap H locs) (hl : lv_has ls 4 (lLv b bs i)) (hi : i + 6 ≤ L) (r : Rel σ pp ss N) (hO : Own σ) (hN : 0 ≤ N ∧ N ≤ 10000) (hR0 : 2000 ≤ R.frames ∧ 80000 ≤ R.locals) (hRc : cells ≤ R.cells ∧ slots ≤ R.slots)
    (kk : ∀ (σ' : mMem) (H1 : Heap) (locs1 : List Loc) (p' s' : Nat), mWd D cy (mAd bs) bs true mN σ' s.heap H1 locs1 → Rel σ' p' s' (N + 1) → Own σ' → W p l e R s m args below meth c H1 locs1 cells slots Q (F0 m 1062 ls [])) : W p l e R s m args below meth c H locs cells slots Q (F0 m 776 ls []) := by
  obtain ⟨hx, hb, -, -, -⟩ := X.1
  obtain ⟨v, σ1, σ2, p', s', g1, g2, g3⟩ := a_steps (F := 2000) (x := (xs (i + 1)).toInt) (Nat.le_refl _) hN.2 (l_i32 _) r
  have o2 : Own σ2 := fun k hk => by rw [f_X12_steps g2 15 k (by unfold T_X12_steps; first | exact not_false | omega), f_X11_steps g1 15 k (by unfold T_X11_steps; first | exact not_false | omega)]; exact hO k hk
  refine lv_aload_n hx hb dL_law_776 rfl (lv_at hl 1 rfl) ?_
  refine l_arg (j := 1) rfl X hX hbl hbA hw.2.2.1 hl (by omega) hL dL_law_777 dL_law_778 dL_law_779 dL_law_780 dL_law_781 ?_
  refine l_call (rest := []) [.int (mI (xs (i + 1)).toInt)] X hw v σ1 (c_X11_steps l D cy (mAd bs) bs 2000 (xs (i + 1)).toInt _ v σ1 g1) sh_0 rfl (by decide) rfl km_X11_steps kv_X11_steps lm_L_99 dL_law_782 hl.1 rfl rfl (Nat.le_of_ble_eq_true rfl) ⟨by omega, by omega⟩ hRc (fun H locs hw => ?_)
  refine lv_aload_n hx hb dL_law_785 rfl (lv_at hl 2 rfl) ?_
  refine l_arg (j := 1) rfl X hX hbl hbA hw.2.2.1 hl (by omega) hL dL_law_786 dL_law_787 dL_law_788 dL_law_789 dL_law_790 ?_
  refine l_call (rest := [.int (mI v)]) [.int (mI (xs (i + 1)).toInt)] X hw v σ2 (c_X12_steps l D cy (mAd bs) bs 2000 (xs (i + 1)).toInt _ v σ2 g2) sh_86 rfl (by decide) rfl km_X12_steps kv_X12_steps lm_L_102 dL_law_791 hl.1 rfl rfl (Nat.le_of_ble_eq_true rfl) ⟨by omega, by omega⟩ hRc (fun H locs hw => ?_)
  refine lv_icmp_eq (tgt := 1062) hx hb dL_law_794 (by decide) (fun _ => ?_) (fun q => absurd rfl q)
  exact kk σ2 H locs p' s' hw g3 o2
theorem lc_21 {pp ss : Nat} {N : Int} (X : mCx p m c code 4 s args RL meth D cy ret) (hX : va_X b L xs s s.heap) (hbl : b < s.heap.size) (hbA : ¬ mA bs b) (hL : L ≤ 3072) (hw : mWd D cy (mAd bs) bs true mN σ s.heap H locs) (hl : lv_has ls 4 (lLv b bs i)) (hi : i + 6 ≤ L) (r : Rel σ pp ss N) (hO : Own σ) (hN : 0 ≤ N ∧ N ≤ 10000) (hR0 : 2000 ≤ R.frames ∧ 80000 ≤ R.locals) (hRc : cells ≤ R.cells ∧ slots ≤ R.slots)
    (kk : ∀ (σ' : mMem) (H1 : Heap) (locs1 : List Loc) (p' s' : Nat), mWd D cy (mAd bs) bs true mN σ' s.heap H1 locs1 → Rel σ' p' s' (N + 1) → Own σ' → W p l e R s m args below meth c H1 locs1 cells slots Q (F0 m 1062 ls [])) : W p l e R s m args below meth c H locs cells slots Q (F0 m 799 ls []) := by
  obtain ⟨hx, hb, -, -, -⟩ := X.1
  obtain ⟨v, σ1, σ2, p', s', g1, g2, g3⟩ := a_chance (F := 2000) (x := (xs (i + 1)).toInt) (Nat.le_refl _) hN.2 (l_i32 _) r
  have o2 : Own σ2 := fun k hk => by rw [f_X12_chance g2 15 k (by unfold T_X12_chance; first | exact not_false | omega), f_X11_chance g1 15 k (by unfold T_X11_chance; first | exact not_false | omega)]; exact hO k hk
  refine lv_aload_n hx hb dL_law_799 rfl (lv_at hl 1 rfl) ?_
  refine l_arg (j := 1) rfl X hX hbl hbA hw.2.2.1 hl (by omega) hL dL_law_800 dL_law_801 dL_law_802 dL_law_803 dL_law_804 ?_
  refine l_call (rest := []) [.int (mI (xs (i + 1)).toInt)] X hw v σ1 (c_X11_chance l D cy (mAd bs) bs 2000 (xs (i + 1)).toInt _ v σ1 g1) sh_0 rfl (by decide) rfl km_X11_chance kv_X11_chance lm_L_103 dL_law_805 hl.1 rfl rfl (Nat.le_of_ble_eq_true rfl) ⟨by omega, by omega⟩ hRc (fun H locs hw => ?_)
  refine lv_aload_n hx hb dL_law_808 rfl (lv_at hl 2 rfl) ?_
  refine l_arg (j := 1) rfl X hX hbl hbA hw.2.2.1 hl (by omega) hL dL_law_809 dL_law_810 dL_law_811 dL_law_812 dL_law_813 ?_
  refine l_call (rest := [.int (mI v)]) [.int (mI (xs (i + 1)).toInt)] X hw v σ2 (c_X12_chance l D cy (mAd bs) bs 2000 (xs (i + 1)).toInt _ v σ2 g2) sh_86 rfl (by decide) rfl km_X12_chance kv_X12_chance lm_L_106 dL_law_814 hl.1 rfl rfl (Nat.le_of_ble_eq_true rfl) ⟨by omega, by omega⟩ hRc (fun H locs hw => ?_)
  refine lv_icmp_eq (tgt := 1062) hx hb dL_law_817 (by decide) (fun _ => ?_) (fun q => absurd rfl q)
  exact kk σ2 H locs p' s' hw g3 o2
theorem lc_22 {pp ss : Nat} {N : Int} (X : mCx p m c code 4 s args RL meth D cy ret) (hX : va_X b L xs s s.heap) (hbl : b < s.heap.size) (hbA : ¬ mA bs b) (hL : L ≤ 3072) (hw : mWd D cy (mAd bs) bs true mN σ s.heap H locs) (hl : lv_has ls 4 (lLv b bs i)) (hi : i + 6 ≤ L) (r : Rel σ pp ss N) (hO : Own σ) (hN : 0 ≤ N ∧ N ≤ 10000) (hR0 : 2000 ≤ R.frames ∧ 80000 ≤ R.locals) (hRc : cells ≤ R.cells ∧ slots ≤ R.slots)
    (kk : ∀ (σ' : mMem) (H1 : Heap) (locs1 : List Loc) (p' s' : Nat), mWd D cy (mAd bs) bs true mN σ' s.heap H1 locs1 → Rel σ' p' s' (N + 1) → Own σ' → W p l e R s m args below meth c H1 locs1 cells slots Q (F0 m 1062 ls [])) : W p l e R s m args below meth c H locs cells slots Q (F0 m 822 ls []) := by
  obtain ⟨hx, hb, -, -, -⟩ := X.1
  obtain ⟨v, σ1, σ2, p', s', g1, g2, g3⟩ := a_turn (F := 2000) (x := (xs (i + 1)).toInt) (y := (xs (i + 2)).toInt) (Nat.le_refl _) (l_i32 _) (l_i32 _) r
  have o2 : Own σ2 := fun k hk => by rw [f_X12_turn g2 15 k (by unfold T_X12_turn; first | exact not_false | omega), f_X11_turn g1 15 k (by unfold T_X11_turn; first | exact not_false | omega)]; exact hO k hk
  refine lv_aload_n hx hb dL_law_822 rfl (lv_at hl 1 rfl) ?_
  refine l_arg (j := 1) rfl X hX hbl hbA hw.2.2.1 hl (by omega) hL dL_law_823 dL_law_824 dL_law_825 dL_law_826 dL_law_827 ?_
  refine l_arg (j := 2) rfl X hX hbl hbA hw.2.2.1 hl (by omega) hL dL_law_828 dL_law_829 dL_law_830 dL_law_831 dL_law_832 ?_
  refine l_call (rest := []) [.int (mI (xs (i + 1)).toInt), .int (mI (xs (i + 2)).toInt)] X hw v σ1 (c_X11_turn l D cy (mAd bs) bs 2000 (xs (i + 1)).toInt (xs (i + 2)).toInt _ v σ1 g1) sh_0 rfl (by decide) rfl km_X11_turn kv_X11_turn lm_L_107 dL_law_833 hl.1 rfl rfl (Nat.le_of_ble_eq_true rfl) ⟨by omega, by omega⟩ hRc (fun H locs hw => ?_)
  refine lv_aload_n hx hb dL_law_836 rfl (lv_at hl 2 rfl) ?_
  refine l_arg (j := 1) rfl X hX hbl hbA hw.2.2.1 hl (by omega) hL dL_law_837 dL_law_838 dL_law_839 dL_law_840 dL_law_841 ?_
  refine l_arg (j := 2) rfl X hX hbl hbA hw.2.2.1 hl (by omega) hL dL_law_842 dL_law_843 dL_law_844 dL_law_845 dL_law_846 ?_
  refine l_call (rest := [.int (mI v)]) [.int (mI (xs (i + 1)).toInt), .int (mI (xs (i + 2)).toInt)] X hw v σ2 (c_X12_turn l D cy (mAd bs) bs 2000 (xs (i + 1)).toInt (xs (i + 2)).toInt _ v σ2 g2) sh_86 rfl (by decide) rfl km_X12_turn kv_X12_turn lm_L_111 dL_law_847 hl.1 rfl rfl (Nat.le_of_ble_eq_true rfl) ⟨by omega, by omega⟩ hRc (fun H locs hw => ?_)
  refine lv_icmp_eq (tgt := 1062) hx hb dL_law_850 (by decide) (fun _ => ?_) (fun q => absurd rfl q)
  exact kk σ2 H locs p' s' hw g3 o2
theorem lc_23 {pp ss : Nat} {N : Int} (X : mCx p m c code 4 s args RL meth D cy ret) (hX : va_X b L xs s s.heap) (hbl : b < s.heap.size) (hbA : ¬ mA bs b) (hL : L ≤ 3072) (hw : mWd D cy (mAd bs) bs true mN σ s.heap H locs) (hl : lv_has ls 4 (lLv b bs i)) (hi : i + 6 ≤ L) (r : Rel σ pp ss N) (hO : Own σ) (hN : 0 ≤ N ∧ N ≤ 10000) (hR0 : 2000 ≤ R.frames ∧ 80000 ≤ R.locals) (hRc : cells ≤ R.cells ∧ slots ≤ R.slots)
    (kk : ∀ (σ' : mMem) (H1 : Heap) (locs1 : List Loc) (p' s' : Nat), mWd D cy (mAd bs) bs true mN σ' s.heap H1 locs1 → Rel σ' p' s' (N + 1) → Own σ' → W p l e R s m args below meth c H1 locs1 cells slots Q (F0 m 1062 ls [])) : W p l e R s m args below meth c H locs cells slots Q (F0 m 855 ls []) := by
  obtain ⟨hx, hb, -, -, -⟩ := X.1
  obtain ⟨v, σ1, σ2, p', s', g1, g2, g3⟩ := a_put (F := 2000) (x := (xs (i + 1)).toInt) (y := (xs (i + 2)).toInt) (z := (xs (i + 3)).toInt) (Nat.le_refl _) (l_i32 _) (l_i32 _) (l_i32 _) r
  have o2 : Own σ2 := fun k hk => by rw [f_X12_put_ g2 15 k (by unfold T_X12_put_; first | exact not_false | omega), f_X11_put g1 15 k (by unfold T_X11_put; first | exact not_false | omega)]; exact hO k hk
  refine lv_aload_n hx hb dL_law_855 rfl (lv_at hl 1 rfl) ?_
  refine l_arg (j := 1) rfl X hX hbl hbA hw.2.2.1 hl (by omega) hL dL_law_856 dL_law_857 dL_law_858 dL_law_859 dL_law_860 ?_
  refine l_arg (j := 2) rfl X hX hbl hbA hw.2.2.1 hl (by omega) hL dL_law_861 dL_law_862 dL_law_863 dL_law_864 dL_law_865 ?_
  refine l_arg (j := 3) rfl X hX hbl hbA hw.2.2.1 hl (by omega) hL dL_law_866 dL_law_867 dL_law_868 dL_law_869 dL_law_870 ?_
  refine l_call (rest := []) [.int (mI (xs (i + 1)).toInt), .int (mI (xs (i + 2)).toInt), .int (mI (xs (i + 3)).toInt)] X hw v σ1 (c_X11_put l D cy (mAd bs) bs 2000 (xs (i + 1)).toInt (xs (i + 2)).toInt (xs (i + 3)).toInt _ v σ1 g1) sh_0 rfl (by decide) rfl km_X11_put kv_X11_put lm_L_112 dL_law_871 hl.1 rfl rfl (Nat.le_of_ble_eq_true rfl) ⟨by omega, by omega⟩ hRc (fun H locs hw => ?_)
  refine lv_aload_n hx hb dL_law_874 rfl (lv_at hl 2 rfl) ?_
  refine l_arg (j := 1) rfl X hX hbl hbA hw.2.2.1 hl (by omega) hL dL_law_875 dL_law_876 dL_law_877 dL_law_878 dL_law_879 ?_
  refine l_arg (j := 2) rfl X hX hbl hbA hw.2.2.1 hl (by omega) hL dL_law_880 dL_law_881 dL_law_882 dL_law_883 dL_law_884 ?_
  refine l_arg (j := 3) rfl X hX hbl hbA hw.2.2.1 hl (by omega) hL dL_law_885 dL_law_886 dL_law_887 dL_law_888 dL_law_889 ?_
  refine l_call (rest := [.int (mI v)]) [.int (mI (xs (i + 1)).toInt), .int (mI (xs (i + 2)).toInt), .int (mI (xs (i + 3)).toInt)] X hw v σ2 (c_X12_put_ l D cy (mAd bs) bs 2000 (xs (i + 1)).toInt (xs (i + 2)).toInt (xs (i + 3)).toInt _ v σ2 g2) sh_86 rfl (by decide) rfl km_X12_put_ kv_X12_put_ lm_L_116 dL_law_890 hl.1 rfl rfl (Nat.le_of_ble_eq_true rfl) ⟨by omega, by omega⟩ hRc (fun H locs hw => ?_)
  refine lv_icmp_eq (tgt := 1062) hx hb dL_law_893 (by decide) (fun _ => ?_) (fun q => absurd rfl q)
  exact kk σ2 H locs p' s' hw g3 o2
theorem lc_24 {pp ss : Nat} {N : Int} (X : mCx p m c code 4 s args RL meth D cy ret) (hX : va_X b L xs s s.heap) (hbl : b < s.heap.size) (hbA : ¬ mA bs b) (hL : L ≤ 3072) (hw : mWd D cy (mAd bs) bs true mN σ s.heap H locs) (hl : lv_has ls 4 (lLv b bs i)) (hi : i + 6 ≤ L) (r : Rel σ pp ss N) (hO : Own σ) (hN : 0 ≤ N ∧ N ≤ 10000) (hR0 : 2000 ≤ R.frames ∧ 80000 ≤ R.locals) (hRc : cells ≤ R.cells ∧ slots ≤ R.slots)
    (kk : ∀ (σ' : mMem) (H1 : Heap) (locs1 : List Loc) (p' s' : Nat), mWd D cy (mAd bs) bs true mN σ' s.heap H1 locs1 → Rel σ' p' s' (N + 1) → Own σ' → W p l e R s m args below meth c H1 locs1 cells slots Q (F0 m 1062 ls [])) : W p l e R s m args below meth c H locs cells slots Q (F0 m 898 ls []) := by
  obtain ⟨hx, hb, -, -, -⟩ := X.1
  obtain ⟨v, σ1, σ2, p', s', g1, g2, g3⟩ := a_shine (F := 2000) (x := (xs (i + 1)).toInt) (Nat.le_refl _) (l_i32 _) r
  have o2 : Own σ2 := fun k hk => by rw [f_X12_shine g2 15 k (by unfold T_X12_shine; first | exact not_false | omega), f_X11_shine g1 15 k (by unfold T_X11_shine; first | exact not_false | omega)]; exact hO k hk
  refine lv_aload_n hx hb dL_law_898 rfl (lv_at hl 1 rfl) ?_
  refine l_arg (j := 1) rfl X hX hbl hbA hw.2.2.1 hl (by omega) hL dL_law_899 dL_law_900 dL_law_901 dL_law_902 dL_law_903 ?_
  refine l_call (rest := []) [.int (mI (xs (i + 1)).toInt)] X hw v σ1 (c_X11_shine l D cy (mAd bs) bs 2000 (xs (i + 1)).toInt _ v σ1 g1) sh_0 rfl (by decide) rfl km_X11_shine kv_X11_shine lm_L_117 dL_law_904 hl.1 rfl rfl (Nat.le_of_ble_eq_true rfl) ⟨by omega, by omega⟩ hRc (fun H locs hw => ?_)
  refine lv_aload_n hx hb dL_law_907 rfl (lv_at hl 2 rfl) ?_
  refine l_arg (j := 1) rfl X hX hbl hbA hw.2.2.1 hl (by omega) hL dL_law_908 dL_law_909 dL_law_910 dL_law_911 dL_law_912 ?_
  refine l_call (rest := [.int (mI v)]) [.int (mI (xs (i + 1)).toInt)] X hw v σ2 (c_X12_shine l D cy (mAd bs) bs 2000 (xs (i + 1)).toInt _ v σ2 g2) sh_86 rfl (by decide) rfl km_X12_shine kv_X12_shine lm_L_120 dL_law_913 hl.1 rfl rfl (Nat.le_of_ble_eq_true rfl) ⟨by omega, by omega⟩ hRc (fun H locs hw => ?_)
  refine lv_icmp_eq (tgt := 1062) hx hb dL_law_916 (by decide) (fun _ => ?_) (fun q => absurd rfl q)
  exact kk σ2 H locs p' s' hw g3 o2
theorem lc_25 {pp ss : Nat} {N : Int} (X : mCx p m c code 4 s args RL meth D cy ret) (hX : va_X b L xs s s.heap) (hbl : b < s.heap.size) (hbA : ¬ mA bs b) (hL : L ≤ 3072) (hw : mWd D cy (mAd bs) bs true mN σ s.heap H locs) (hl : lv_has ls 4 (lLv b bs i)) (hi : i + 6 ≤ L) (r : Rel σ pp ss N) (hO : Own σ) (hN : 0 ≤ N ∧ N ≤ 10000) (hR0 : 2000 ≤ R.frames ∧ 80000 ≤ R.locals) (hRc : cells ≤ R.cells ∧ slots ≤ R.slots)
    (kk : ∀ (σ' : mMem) (H1 : Heap) (locs1 : List Loc) (p' s' : Nat), mWd D cy (mAd bs) bs true mN σ' s.heap H1 locs1 → Rel σ' p' s' (N + 1) → Own σ' → W p l e R s m args below meth c H1 locs1 cells slots Q (F0 m 1062 ls [])) : W p l e R s m args below meth c H locs cells slots Q (F0 m 921 ls []) := by
  obtain ⟨hx, hb, -, -, -⟩ := X.1
  obtain ⟨v, σ1, σ2, p', s', g1, g2, g3⟩ := a_undo (F := 2000)  (Nat.le_refl _) r
  have o2 : Own σ2 := fun k hk => by rw [f_X12_undo g2 15 k (by unfold T_X12_undo; first | exact not_false | omega), f_X11_undo g1 15 k (by unfold T_X11_undo; first | exact not_false | omega)]; exact hO k hk
  refine lv_aload_n hx hb dL_law_921 rfl (lv_at hl 1 rfl) ?_
  refine l_call (rest := []) [] X hw v σ1 (c_X11_undo l D cy (mAd bs) bs 2000  _ v σ1 g1) sh_0 rfl (by decide) rfl km_X11_undo kv_X11_undo lm_L_121 dL_law_922 hl.1 rfl rfl (Nat.le_of_ble_eq_true rfl) ⟨by omega, by omega⟩ hRc (fun H locs hw => ?_)
  refine lv_aload_n hx hb dL_law_925 rfl (lv_at hl 2 rfl) ?_
  refine l_call (rest := [.int (mI v)]) [] X hw v σ2 (c_X12_undo l D cy (mAd bs) bs 2000  _ v σ2 g2) sh_86 rfl (by decide) rfl km_X12_undo kv_X12_undo lm_L_125 dL_law_926 hl.1 rfl rfl (Nat.le_of_ble_eq_true rfl) ⟨by omega, by omega⟩ hRc (fun H locs hw => ?_)
  refine lv_icmp_eq (tgt := 1062) hx hb dL_law_929 (by decide) (fun _ => ?_) (fun q => absurd rfl q)
  exact kk σ2 H locs p' s' hw g3 o2
theorem lc_26 {pp ss : Nat} {N : Int} (X : mCx p m c code 4 s args RL meth D cy ret) (hX : va_X b L xs s s.heap) (hbl : b < s.heap.size) (hbA : ¬ mA bs b) (hL : L ≤ 3072) (hw : mWd D cy (mAd bs) bs true mN σ s.heap H locs) (hl : lv_has ls 4 (lLv b bs i)) (hi : i + 6 ≤ L) (r : Rel σ pp ss N) (hO : Own σ) (hN : 0 ≤ N ∧ N ≤ 10000) (hR0 : 2000 ≤ R.frames ∧ 80000 ≤ R.locals) (hRc : cells ≤ R.cells ∧ slots ≤ R.slots)
    (kk : ∀ (σ' : mMem) (H1 : Heap) (locs1 : List Loc) (p' s' : Nat), mWd D cy (mAd bs) bs true mN σ' s.heap H1 locs1 → Rel σ' p' s' (N + 1) → Own σ' → W p l e R s m args below meth c H1 locs1 cells slots Q (F0 m 1062 ls [])) : W p l e R s m args below meth c H locs cells slots Q (F0 m 934 ls []) := by
  obtain ⟨hx, hb, -, -, -⟩ := X.1
  obtain ⟨v, σ1, σ2, p', s', g1, g2, g3⟩ := a_seed (F := 2000) (x := (xs (i + 1)).toInt) (l_i32 _) r
  have o2 : Own σ2 := fun k hk => by rw [f_X12_seed g2 15 k (by unfold T_X12_seed; first | exact not_false | omega), f_X11_seed g1 15 k (by unfold T_X11_seed; first | exact not_false | omega)]; exact hO k hk
  refine lv_aload_n hx hb dL_law_934 rfl (lv_at hl 1 rfl) ?_
  refine l_arg (j := 1) rfl X hX hbl hbA hw.2.2.1 hl (by omega) hL dL_law_935 dL_law_936 dL_law_937 dL_law_938 dL_law_939 ?_
  refine l_call (rest := []) [.int (mI (xs (i + 1)).toInt)] X hw v σ1 (c_X11_seed l D cy (mAd bs) bs 2000 (xs (i + 1)).toInt _ v σ1 g1) sh_0 rfl (by decide) rfl km_X11_seed kv_X11_seed lm_L_126 dL_law_940 hl.1 rfl rfl (Nat.le_of_ble_eq_true rfl) ⟨by omega, by omega⟩ hRc (fun H locs hw => ?_)
  refine lv_aload_n hx hb dL_law_943 rfl (lv_at hl 2 rfl) ?_
  refine l_arg (j := 1) rfl X hX hbl hbA hw.2.2.1 hl (by omega) hL dL_law_944 dL_law_945 dL_law_946 dL_law_947 dL_law_948 ?_
  refine l_call (rest := [.int (mI v)]) [.int (mI (xs (i + 1)).toInt)] X hw v σ2 (c_X12_seed l D cy (mAd bs) bs 2000 (xs (i + 1)).toInt _ v σ2 g2) sh_86 rfl (by decide) rfl km_X12_seed kv_X12_seed lm_L_129 dL_law_949 hl.1 rfl rfl (Nat.le_of_ble_eq_true rfl) ⟨by omega, by omega⟩ hRc (fun H locs hw => ?_)
  refine lv_icmp_eq (tgt := 1062) hx hb dL_law_952 (by decide) (fun _ => ?_) (fun q => absurd rfl q)
  exact kk σ2 H locs p' s' hw g3 o2
theorem lc_27 {pp ss : Nat} {N : Int} (X : mCx p m c code 4 s args RL meth D cy ret) (hX : va_X b L xs s s.heap) (hbl : b < s.heap.size) (hbA : ¬ mA bs b) (hL : L ≤ 3072) (hw : mWd D cy (mAd bs) bs true mN σ s.heap H locs) (hl : lv_has ls 4 (lLv b bs i)) (hi : i + 6 ≤ L) (r : Rel σ pp ss N) (hO : Own σ) (hN : 0 ≤ N ∧ N ≤ 10000) (hR0 : 2000 ≤ R.frames ∧ 80000 ≤ R.locals) (hRc : cells ≤ R.cells ∧ slots ≤ R.slots)
    (kk : ∀ (σ' : mMem) (H1 : Heap) (locs1 : List Loc) (p' s' : Nat), mWd D cy (mAd bs) bs true mN σ' s.heap H1 locs1 → Rel σ' p' s' (N + 1) → Own σ' → W p l e R s m args below meth c H1 locs1 cells slots Q (F0 m 1062 ls [])) : W p l e R s m args below meth c H locs cells slots Q (F0 m 957 ls []) := by
  obtain ⟨hx, hb, -, -, -⟩ := X.1
  obtain ⟨v, σ1, σ2, p', s', g1, g2, g3⟩ := a_kept (F := 2000) (x := (xs (i + 1)).toInt) (y := (xs (i + 2)).toInt) (l_i32 _) (l_i32 _) hN.2 r
  have o2 : Own σ2 := fun k hk => by rw [f_X12_kept g2 15 k (by unfold T_X12_kept; first | exact not_false | omega), f_X11_kept g1 15 k (by unfold T_X11_kept; first | exact not_false | omega)]; exact hO k hk
  refine lv_aload_n hx hb dL_law_957 rfl (lv_at hl 1 rfl) ?_
  refine l_arg (j := 1) rfl X hX hbl hbA hw.2.2.1 hl (by omega) hL dL_law_958 dL_law_959 dL_law_960 dL_law_961 dL_law_962 ?_
  refine l_arg (j := 2) rfl X hX hbl hbA hw.2.2.1 hl (by omega) hL dL_law_963 dL_law_964 dL_law_965 dL_law_966 dL_law_967 ?_
  refine l_call (rest := []) [.int (mI (xs (i + 1)).toInt), .int (mI (xs (i + 2)).toInt)] X hw v σ1 (c_X11_kept l D cy (mAd bs) bs 2000 (xs (i + 1)).toInt (xs (i + 2)).toInt _ v σ1 g1) sh_0 rfl (by decide) rfl km_X11_kept kv_X11_kept lm_L_130 dL_law_968 hl.1 rfl rfl (Nat.le_of_ble_eq_true rfl) ⟨by omega, by omega⟩ hRc (fun H locs hw => ?_)
  refine lv_aload_n hx hb dL_law_971 rfl (lv_at hl 2 rfl) ?_
  refine l_arg (j := 1) rfl X hX hbl hbA hw.2.2.1 hl (by omega) hL dL_law_972 dL_law_973 dL_law_974 dL_law_975 dL_law_976 ?_
  refine l_arg (j := 2) rfl X hX hbl hbA hw.2.2.1 hl (by omega) hL dL_law_977 dL_law_978 dL_law_979 dL_law_980 dL_law_981 ?_
  refine l_call (rest := [.int (mI v)]) [.int (mI (xs (i + 1)).toInt), .int (mI (xs (i + 2)).toInt)] X hw v σ2 (c_X12_kept l D cy (mAd bs) bs 2000 (xs (i + 1)).toInt (xs (i + 2)).toInt _ v σ2 g2) sh_86 rfl (by decide) rfl km_X12_kept kv_X12_kept lm_L_133 dL_law_982 hl.1 rfl rfl (Nat.le_of_ble_eq_true rfl) ⟨by omega, by omega⟩ hRc (fun H locs hw => ?_)
  refine lv_icmp_eq (tgt := 1062) hx hb dL_law_985 (by decide) (fun _ => ?_) (fun q => absurd rfl q)
  exact kk σ2 H locs p' s' hw g3 o2
theorem lc_28 {pp ss : Nat} {N : Int} (X : mCx p m c code 4 s args RL meth D cy ret) (hX : va_X b L xs s s.heap) (hbl : b < s.heap.size) (hbA : ¬ mA bs b) (hL : L ≤ 3072) (hw : mWd D cy (mAd bs) bs true mN σ s.heap H locs) (hl : lv_has ls 4 (lLv b bs i)) (hi : i + 6 ≤ L) (r : Rel σ pp ss N) (hO : Own σ) (hN : 0 ≤ N ∧ N ≤ 10000) (hR0 : 2000 ≤ R.frames ∧ 80000 ≤ R.locals) (hRc : cells ≤ R.cells ∧ slots ≤ R.slots)
    (kk : ∀ (σ' : mMem) (H1 : Heap) (locs1 : List Loc) (p' s' : Nat), mWd D cy (mAd bs) bs true mN σ' s.heap H1 locs1 → Rel σ' p' s' (N + 1) → Own σ' → W p l e R s m args below meth c H1 locs1 cells slots Q (F0 m 1062 ls [])) : W p l e R s m args below meth c H locs cells slots Q (F0 m 990 ls []) := by
  obtain ⟨hx, hb, -, -, -⟩ := X.1
  obtain ⟨v, σ1, σ2, p', s', g1, g2, g3⟩ := a_image (F := 2000)  (Nat.le_refl _) r
  have o2 : Own σ2 := fun k hk => by rw [f_X12_image g2 15 k (by unfold T_X12_image; first | exact not_false | omega), f_X11_image g1 15 k (by unfold T_X11_image; first | exact not_false | omega)]; exact hO k hk
  refine lv_aload_n hx hb dL_law_990 rfl (lv_at hl 1 rfl) ?_
  refine l_call (rest := []) [] X hw v σ1 (c_X11_image l D cy (mAd bs) bs 2000  _ v σ1 g1) sh_0 rfl (by decide) rfl km_X11_image kv_X11_image lm_L_134 dL_law_991 hl.1 rfl rfl (Nat.le_of_ble_eq_true rfl) ⟨by omega, by omega⟩ hRc (fun H locs hw => ?_)
  refine lv_aload_n hx hb dL_law_994 rfl (lv_at hl 2 rfl) ?_
  refine l_call (rest := [.int (mI v)]) [] X hw v σ2 (c_X12_image l D cy (mAd bs) bs 2000  _ v σ2 g2) sh_86 rfl (by decide) rfl km_X12_image kv_X12_image lm_L_137 dL_law_995 hl.1 rfl rfl (Nat.le_of_ble_eq_true rfl) ⟨by omega, by omega⟩ hRc (fun H locs hw => ?_)
  refine lv_icmp_eq (tgt := 1062) hx hb dL_law_998 (by decide) (fun _ => ?_) (fun q => absurd rfl q)
  exact kk σ2 H locs p' s' hw g3 o2
theorem lc_29 {pp ss : Nat} {N : Int} (X : mCx p m c code 4 s args RL meth D cy ret) (hX : va_X b L xs s s.heap) (hbl : b < s.heap.size) (hbA : ¬ mA bs b) (hL : L ≤ 3072) (hw : mWd D cy (mAd bs) bs true mN σ s.heap H locs) (hl : lv_has ls 4 (lLv b bs i)) (hi : i + 6 ≤ L) (r : Rel σ pp ss N) (hO : Own σ) (hN : 0 ≤ N ∧ N ≤ 10000) (hR0 : 2000 ≤ R.frames ∧ 80000 ≤ R.locals) (hRc : cells ≤ R.cells ∧ slots ≤ R.slots)
    (kk : ∀ (σ' : mMem) (H1 : Heap) (locs1 : List Loc) (p' s' : Nat), mWd D cy (mAd bs) bs true mN σ' s.heap H1 locs1 → Rel σ' p' s' (N + 1) → Own σ' → W p l e R s m args below meth c H1 locs1 cells slots Q (F0 m 1062 ls [])) : W p l e R s m args below meth c H locs cells slots Q (F0 m 1003 ls []) := by
  obtain ⟨hx, hb, -, -, -⟩ := X.1
  obtain ⟨v, σ1, σ2, p', s', g1, g2, g3⟩ := a_octet (F := 2000) (x := (xs (i + 1)).toInt) (l_i32 _) r
  have o2 : Own σ2 := fun k hk => by rw [f_X12_octet g2 15 k (by unfold T_X12_octet; first | exact not_false | omega), f_X11_octet g1 15 k (by unfold T_X11_octet; first | exact not_false | omega)]; exact hO k hk
  refine lv_aload_n hx hb dL_law_1003 rfl (lv_at hl 1 rfl) ?_
  refine l_arg (j := 1) rfl X hX hbl hbA hw.2.2.1 hl (by omega) hL dL_law_1004 dL_law_1005 dL_law_1006 dL_law_1007 dL_law_1008 ?_
  refine l_call (rest := []) [.int (mI (xs (i + 1)).toInt)] X hw v σ1 (c_X11_octet l D cy (mAd bs) bs 2000 (xs (i + 1)).toInt _ v σ1 g1) sh_0 rfl (by decide) rfl km_X11_octet kv_X11_octet lm_L_138 dL_law_1009 hl.1 rfl rfl (Nat.le_of_ble_eq_true rfl) ⟨by omega, by omega⟩ hRc (fun H locs hw => ?_)
  refine lv_aload_n hx hb dL_law_1012 rfl (lv_at hl 2 rfl) ?_
  refine l_arg (j := 1) rfl X hX hbl hbA hw.2.2.1 hl (by omega) hL dL_law_1013 dL_law_1014 dL_law_1015 dL_law_1016 dL_law_1017 ?_
  refine l_call (rest := [.int (mI v)]) [.int (mI (xs (i + 1)).toInt)] X hw v σ2 (c_X12_octet l D cy (mAd bs) bs 2000 (xs (i + 1)).toInt _ v σ2 g2) sh_86 rfl (by decide) rfl km_X12_octet kv_X12_octet lm_L_141 dL_law_1018 hl.1 rfl rfl (Nat.le_of_ble_eq_true rfl) ⟨by omega, by omega⟩ hRc (fun H locs hw => ?_)
  refine lv_icmp_eq (tgt := 1062) hx hb dL_law_1021 (by decide) (fun _ => ?_) (fun q => absurd rfl q)
  exact kk σ2 H locs p' s' hw g3 o2
theorem lc_30 {pp ss : Nat} {N : Int} (X : mCx p m c code 4 s args RL meth D cy ret) (hX : va_X b L xs s s.heap) (hbl : b < s.heap.size) (hbA : ¬ mA bs b) (hL : L ≤ 3072) (hw : mWd D cy (mAd bs) bs true mN σ s.heap H locs) (hl : lv_has ls 4 (lLv b bs i)) (hi : i + 6 ≤ L) (r : Rel σ pp ss N) (hO : Own σ) (hN : 0 ≤ N ∧ N ≤ 10000) (hR0 : 2000 ≤ R.frames ∧ 80000 ≤ R.locals) (hRc : cells ≤ R.cells ∧ slots ≤ R.slots)
    (kk : ∀ (σ' : mMem) (H1 : Heap) (locs1 : List Loc) (p' s' : Nat), mWd D cy (mAd bs) bs true mN σ' s.heap H1 locs1 → Rel σ' p' s' (N + 1) → Own σ' → W p l e R s m args below meth c H1 locs1 cells slots Q (F0 m 1062 ls [])) : W p l e R s m args below meth c H locs cells slots Q (F0 m 1026 ls []) := by
  obtain ⟨hx, hb, -, -, -⟩ := X.1
  obtain ⟨v, σ1, σ2, p', s', g1, g2, g3⟩ := a_on (F := 2000)  (Nat.le_refl _) hN.1 r
  have o2 : Own σ2 := fun k hk => by rw [f_X12_on_ g2 15 k (by unfold T_X12_on_; first | exact not_false | omega), f_X11_on g1 15 k (by unfold T_X11_on; first | exact not_false | omega)]; exact hO k hk
  refine lv_aload_n hx hb dL_law_1026 rfl (lv_at hl 1 rfl) ?_
  refine l_call (rest := []) [] X hw v σ1 (c_X11_on l D cy (mAd bs) bs 2000  _ v σ1 g1) sh_0 rfl (by decide) rfl km_X11_on kv_X11_on lm_L_142 dL_law_1027 hl.1 rfl rfl (Nat.le_of_ble_eq_true rfl) ⟨by omega, by omega⟩ hRc (fun H locs hw => ?_)
  refine lv_aload_n hx hb dL_law_1030 rfl (lv_at hl 2 rfl) ?_
  refine l_call (rest := [.int (mI v)]) [] X hw v σ2 (c_X12_on_ l D cy (mAd bs) bs 2000  _ v σ2 g2) sh_86 rfl (by decide) rfl km_X12_on_ kv_X12_on_ lm_L_145 dL_law_1031 hl.1 rfl rfl (Nat.le_of_ble_eq_true rfl) ⟨by omega, by omega⟩ hRc (fun H locs hw => ?_)
  refine lv_icmp_eq (tgt := 1062) hx hb dL_law_1034 (by decide) (fun _ => ?_) (fun q => absurd rfl q)
  exact kk σ2 H locs p' s' hw g3 o2
theorem lc_31 {pp ss : Nat} {N : Int} (X : mCx p m c code 4 s args RL meth D cy ret) (hX : va_X b L xs s s.heap) (hbl : b < s.heap.size) (hbA : ¬ mA bs b) (hL : L ≤ 3072) (hw : mWd D cy (mAd bs) bs true mN σ s.heap H locs) (hl : lv_has ls 4 (lLv b bs i)) (hi : i + 6 ≤ L) (r : Rel σ pp ss N) (hO : Own σ) (hN : 0 ≤ N ∧ N ≤ 10000) (hR0 : 2000 ≤ R.frames ∧ 80000 ≤ R.locals) (hRc : cells ≤ R.cells ∧ slots ≤ R.slots)
    (kk : ∀ (σ' : mMem) (H1 : Heap) (locs1 : List Loc) (p' s' : Nat), mWd D cy (mAd bs) bs true mN σ' s.heap H1 locs1 → Rel σ' p' s' (N + 1) → Own σ' → W p l e R s m args below meth c H1 locs1 cells slots Q (F0 m 1062 ls [])) : W p l e R s m args below meth c H locs cells slots Q (F0 m 1039 ls []) := by
  obtain ⟨hx, hb, -, -, -⟩ := X.1
  obtain ⟨v, σ1, σ2, p', s', g1, g2, g3⟩ := a_status (F := 2000) (x := (xs (i + 1)).toInt) (l_i32 _) r
  have o2 : Own σ2 := fun k hk => by rw [f_X12_status g2 15 k (by unfold T_X12_status; first | exact not_false | omega), f_X11_status g1 15 k (by unfold T_X11_status; first | exact not_false | omega)]; exact hO k hk
  refine lv_aload_n hx hb dL_law_1039 rfl (lv_at hl 1 rfl) ?_
  refine l_arg (j := 1) rfl X hX hbl hbA hw.2.2.1 hl (by omega) hL dL_law_1040 dL_law_1041 dL_law_1042 dL_law_1043 dL_law_1044 ?_
  refine l_call (rest := []) [.int (mI (xs (i + 1)).toInt)] X hw v σ1 (c_X11_status l D cy (mAd bs) bs 2000 (xs (i + 1)).toInt _ v σ1 g1) sh_0 rfl (by decide) rfl km_X11_status kv_X11_status lm_L_146 dL_law_1045 hl.1 rfl rfl (Nat.le_of_ble_eq_true rfl) ⟨by omega, by omega⟩ hRc (fun H locs hw => ?_)
  refine lv_aload_n hx hb dL_law_1048 rfl (lv_at hl 2 rfl) ?_
  refine l_arg (j := 1) rfl X hX hbl hbA hw.2.2.1 hl (by omega) hL dL_law_1049 dL_law_1050 dL_law_1051 dL_law_1052 dL_law_1053 ?_
  refine l_call (rest := [.int (mI v)]) [.int (mI (xs (i + 1)).toInt)] X hw v σ2 (c_X12_status l D cy (mAd bs) bs 2000 (xs (i + 1)).toInt _ v σ2 g2) sh_86 rfl (by decide) rfl km_X12_status kv_X12_status lm_L_149 dL_law_1054 hl.1 rfl rfl (Nat.le_of_ble_eq_true rfl) ⟨by omega, by omega⟩ hRc (fun H locs hw => ?_)
  refine lv_icmp_eq (tgt := 1062) hx hb dL_law_1057 (by decide) (fun _ => ?_) (fun q => absurd rfl q)
  exact kk σ2 H locs p' s' hw g3 o2
end LW
