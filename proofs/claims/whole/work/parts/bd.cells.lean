/-! LAYER 1: what the constructors call (written by gencells.py) -/
def dfv : Nat → Value
  | 0 => .int 0
  | 1 => .long 0
  | _ => .null
theorem hd_of {ci N : Nat} {ty : Nat → FieldType} (h1 : (mFt ci).length = N) (h2 : ∀ j, j < N → defaultValue (ty j) = dfv ((mFt ci).getD j 0)) (ad : Nat → Nat) (o : Nat) : ∀ j, j < N → defaultValue (ty j) = vp_V (mFs ad false (mNew ci) ci o) j := by
  intro j hj
  have e0 : vp_V (mFs ad false (mNew ci) ci o) j = mFv ad false (mNew ci) ci o j := by
    unfold vp_V
    rw [List.getD_eq_getElem?_getD, mFs_at (by omega), Option.getD_some]
  rw [h2 j hj, e0]
  rcases (by omega : (mFt ci).getD j 0 = 0 ∨ (mFt ci).getD j 0 = 1 ∨ 2 ≤ (mFt ci).getD j 0) with c | c | c
  · rw [mFv_i c, c]
    have e : mNew ci j = 0 := by unfold mNew; rw [if_neg (by omega)]
    rw [e]
    rfl
  · rw [mFv_l c, c]
    have e : mNew ci j = 0 := by unfold mNew; rw [if_neg (by omega)]
    rw [e]
    rfl
  · rw [mFv_c c]
    have e : mNew ci j = -1 := by unfold mNew; rw [if_pos c]
    rw [e]
    obtain ⟨x, hx⟩ : ∃ x, (mFt ci).getD j 0 = x + 2 := ⟨(mFt ci).getD j 0 - 2, by omega⟩
    rw [hx]
    rfl
theorem hd_X0 : ∀ (ad : Nat → Nat) (o : Nat), ∀ j, j < 4 → defaultValue (tyX0 j) = vp_V (mFs ad false (mNew 0) 0 o) j := hd_of (by decide) (by decide +kernel)
theorem hd_X1 : ∀ (ad : Nat → Nat) (o : Nat), ∀ j, j < 3 → defaultValue (tyX1 j) = vp_V (mFs ad false (mNew 1) 1 o) j := hd_of (by decide) (by decide +kernel)
theorem hd_X2 : ∀ (ad : Nat → Nat) (o : Nat), ∀ j, j < 2 → defaultValue (tyX2 j) = vp_V (mFs ad false (mNew 2) 2 o) j := hd_of (by decide) (by decide +kernel)
theorem hd_X3 : ∀ (ad : Nat → Nat) (o : Nat), ∀ j, j < 5 → defaultValue (tyX3 j) = vp_V (mFs ad false (mNew 3) 3 o) j := hd_of (by decide) (by decide +kernel)
theorem hd_X4 : ∀ (ad : Nat → Nat) (o : Nat), ∀ j, j < 3 → defaultValue (tyX4 j) = vp_V (mFs ad false (mNew 4) 4 o) j := hd_of (by decide) (by decide +kernel)
theorem hd_X5 : ∀ (ad : Nat → Nat) (o : Nat), ∀ j, j < 15 → defaultValue (tyX5 j) = vp_V (mFs ad false (mNew 5) 5 o) j := hd_of (by decide) (by decide +kernel)
theorem hd_X6 : ∀ (ad : Nat → Nat) (o : Nat), ∀ j, j < 3 → defaultValue (tyX6 j) = vp_V (mFs ad false (mNew 6) 6 o) j := hd_of (by decide) (by decide +kernel)
theorem hd_X7 : ∀ (ad : Nat → Nat) (o : Nat), ∀ j, j < 2 → defaultValue (tyX7 j) = vp_V (mFs ad false (mNew 7) 7 o) j := hd_of (by decide) (by decide +kernel)
theorem hd_X8 : ∀ (ad : Nat → Nat) (o : Nat), ∀ j, j < 12 → defaultValue (tyX8 j) = vp_V (mFs ad false (mNew 8) 8 o) j := hd_of (by decide) (by decide +kernel)
theorem hd_X9 : ∀ (ad : Nat → Nat) (o : Nat), ∀ j, j < 4 → defaultValue (tyX9 j) = vp_V (mFs ad false (mNew 9) 9 o) j := hd_of (by decide) (by decide +kernel)
theorem hd_X10 : ∀ (ad : Nat → Nat) (o : Nat), ∀ j, j < 8 → defaultValue (tyX10 j) = vp_V (mFs ad false (mNew 10) 10 o) j := hd_of (by decide) (by decide +kernel)
theorem hd_X11 : ∀ (ad : Nat → Nat) (o : Nat), ∀ j, j < 13 → defaultValue (tyX11 j) = vp_V (mFs ad false (mNew 11) 11 o) j := hd_of (by decide) (by decide +kernel)
theorem hd_X12 : ∀ (ad : Nat → Nat) (o : Nat), ∀ j, j < 72 → defaultValue (tyX12 j) = vp_V (mFs ad false (mNew 12) 12 o) j := hd_of (by decide) (by decide +kernel)
theorem sh_p3 : mPlan 3 := mPlan_z (z := 3) (Or.inl rfl)
theorem sh_p8 : mPlan 8 := mPlan_z (z := 8) (Or.inr rfl)
theorem mup_id {σ : mMem} {o k : Nat} {z : Int} (h : σ o k = z) : mup σ o k z = σ := by
  funext q j
  unfold mup mupo
  by_cases c : q = o
  · subst c
    rw [if_pos rfl]
    unfold mup1
    by_cases d : j = k
    · subst d
      rw [if_pos rfl, h]
    · rw [if_neg d]
  · rw [if_neg c]
theorem cb_fill (l : Launch) (D : va_G) (cy : Nat → ClassId) (bs qs qv : Nat) (qf : Option Nat) {o len n : Nat} {σ : mMem} (hs : mSh o = (13, len)) (hlen : len ≤ 10000) (ho : o < n) (hz : ∀ j, j < len → σ o j = 0) : mBv l D cy bs qs qv qf yJ7_fill_53178 cJ7_fill_53178 4 1 0 0 [.ref (mAd bs o), .int (mI 0)] n σ n σ := by
  refine mBv.of (lv := [(0, .ref (mAd bs o)), (1, .int (mI 0))]) km_J7_fill_53178.2.2.2.2.2 (Nat.le_of_ble_eq_true rfl) rfl (fun p e s m args below meth c H locs ls B hN hw hl => ?_)
  obtain ⟨hx, hb, -, -, -⟩ := B.1.1
  refine lv_iconst (v := mI 0) hx hb dJ7_fill_53178_0 rfl ?_
  refine lv_istore_n (lv' := [(2, .int (mI 0)), (0, .ref (mAd bs o)), (1, .int (mI 0))]) hx hb dJ7_fill_53178_1 rfl hl (by decide) rfl (fun ls hl => ?_)
  refine lv_aload_n hx hb dJ7_fill_53178_2 rfl (lv_at hl 1 rfl) ?_
  refine rb_alen B hw ho hs dJ7_fill_53178_3 ?_
  refine lv_istore_n (lv' := [(3, .int (mI (len : Int))), (2, .int (mI 0)), (0, .ref (mAd bs o)), (1, .int (mI 0))]) hx hb dJ7_fill_53178_4 rfl hl (by decide) rfl (fun ls hl => ?_)
  have key : ∀ (d k : Nat) (H : Heap) (locs : List Loc) (ls : Array Slot), d + k = len → mWb D cy bs n σ s.heap H locs → lv_has ls 4 [(2, .int (mI (k : Int))), (3, .int (mI (len : Int))), (0, .ref (mAd bs o)), (1, .int (mI 0))] → W p l e (mRmb 1 0 0) s m args below meth c H locs 0 0 (MQ below (mQb D cy bs n σ) args s 0 0 (mA bs)) (F0 m 5 ls []) := by
    intro d
    induction d with
    | zero =>
      intro k H locs ls e1 hw hl
      refine lv_iload_n hx hb dJ7_fill_53178_5 rfl (lv_at hl 0 rfl) ?_
      refine lv_iload_n hx hb dJ7_fill_53178_6 rfl (lv_at hl 1 rfl) ?_
      refine lv_icmp_ge (tgt := 20) hx hb dJ7_fill_53178_7 (by decide) (fun _ => ?_) (fun q => absurd (mI_le.mpr (by rw [mw_id (by omega) (by omega), mw_id (by omega) (by omega)]; omega)) q)
      exact rb_vret B hw dJ7_fill_53178_20 rfl (Nat.le_refl _) (Nat.le_refl _) rfl
    | succ d ih =>
      intro k H locs ls e1 hw hl
      refine lv_iload_n hx hb dJ7_fill_53178_5 rfl (lv_at hl 0 rfl) ?_
      refine lv_iload_n hx hb dJ7_fill_53178_6 rfl (lv_at hl 1 rfl) ?_
      refine lv_icmp_ge (tgt := 20) hx hb dJ7_fill_53178_7 (by decide) (fun q => absurd (mI_le.mp q) (by rw [mw_id (by omega) (by omega), mw_id (by omega) (by omega)]; omega)) (fun _ => ?_)
      refine lv_aload_n hx hb dJ7_fill_53178_10 rfl (lv_at hl 2 rfl) ?_
      refine lv_iload_n hx hb dJ7_fill_53178_11 rfl (lv_at hl 0 rfl) ?_
      refine lv_iload_n hx hb dJ7_fill_53178_12 rfl (lv_at hl 3 rfl) ?_
      refine rb_iast B hw ho hs (by rw [mw_id (by omega) (by omega)]; omega) dJ7_fill_53178_13 (fun H1 locs1 hw1 => ?_)
      rw [mup_id (hz _ (by rw [mw_id (by omega) (by omega)]; omega))] at hw1
      refine lv_iinc (v := mI ((k + 1 : Nat) : Int)) (lv' := [(2, .int (mI ((k + 1 : Nat) : Int))), (3, .int (mI (len : Int))), (0, .ref (mAd bs o)), (1, .int (mI 0))]) hx hb dJ7_fill_53178_14 hl (k := 0) rfl (by rw [show ((k + 1 : Nat) : Int) = (k : Int) + 1 by omega]; exact mI_add _ _) (by decide) rfl (fun ls hl => ?_)
      refine lv_goto (tgt := 5) hx hb dJ7_fill_53178_17 (by decide) ?_
      exact ih (k + 1) H1 locs1 ls (by omega) hw1 hl
  exact key len 0 H locs ls (by omega) hw (lv_sub hl [1, 0, 2, 3] rfl)
def mClr (o : Nat) (σ : mMem) : mMem := (mup (mup (mup (mup (mup (mup (mup (mup (mup (mup (mup σ o 4 0) o 5 0) o 6 0) o 7 0) o 8 0) o 9 0) o 10 0) o 11 0) o 12 500) o 13 0) o 14 0)
theorem cb_clear (l : Launch) (D : va_G) (cy : Nat → ClassId) (bs qs qv : Nat) (qf : Option Nat) {o n : Nat} {σ : mMem} (ho : mPlan o) (hn : o + 4 < n) (h0 : σ o 0 = ((o + 1 : Nat) : Int)) (h1 : σ o 1 = ((o + 2 : Nat) : Int)) (h2 : σ o 2 = ((o + 3 : Nat) : Int)) (z0 : ∀ j, j < 81 → σ (o + 1) j = 0) (z1 : ∀ j, j < 6 → σ (o + 2) j = 0) (z2 : ∀ j, j < 60 → σ (o + 3) j = 0) : mBv l D cy bs qs qv qf yX5_clear cX5_clear 1 2 0 0 [.ref (mAd bs o)] n σ n (mClr o σ) := by
  refine mBv.of (lv := [(0, .ref (mAd bs o))]) km_X5_clear.2.2.2.2.2 (Nat.le_of_ble_eq_true rfl) rfl (fun p e s m args below meth c H locs ls B hN hw hl => ?_)
  obtain ⟨hx, hb, -, -, -⟩ := B.1.1
  refine lv_aload_n hx hb dX5_clear_0 rfl (lv_at hl 0 rfl) ?_
  refine rb_getr (q := o + 1) B hw (by omega) ho.1 fd_5_0 (by decide) h0 lf_X5_11 dX5_clear_1 ?_
  refine lv_iconst (v := mI 0) hx hb dX5_clear_4 rfl ?_
  refine rb_cs (rest := []) [.ref (mAd bs (o + 1)), .int (mI 0)] B hw (cb_fill l D cy bs qs qv qf ho.2.1 (by decide) (by omega) z0) km_J7_fill_53178 ks_J7_fill_53178 lm_X5_31 dX5_clear_5 hl.1 rfl rfl (Nat.le_of_ble_eq_true rfl) ⟨by decide, by decide⟩ ⟨Nat.le_refl _, Nat.le_refl _⟩ (fun H locs hw => ?_)
  refine lv_aload_n hx hb dX5_clear_8 rfl (lv_at hl 0 rfl) ?_
  refine rb_getr (q := o + 2) B hw (by omega) ho.1 fd_5_1 (by decide) h1 lf_X5_15 dX5_clear_9 ?_
  refine lv_iconst (v := mI 0) hx hb dX5_clear_12 rfl ?_
  refine rb_cs (rest := []) [.ref (mAd bs (o + 2)), .int (mI 0)] B hw (cb_fill l D cy bs qs qv qf ho.2.2.1 (by decide) (by omega) z1) km_J7_fill_53178 ks_J7_fill_53178 lm_X5_31 dX5_clear_13 hl.1 rfl rfl (Nat.le_of_ble_eq_true rfl) ⟨by decide, by decide⟩ ⟨Nat.le_refl _, Nat.le_refl _⟩ (fun H locs hw => ?_)
  refine lv_aload_n hx hb dX5_clear_16 rfl (lv_at hl 0 rfl) ?_
  refine rb_getr (q := o + 3) B hw (by omega) ho.1 fd_5_2 (by decide) h2 lf_X5_20 dX5_clear_17 ?_
  refine lv_iconst (v := mI 0) hx hb dX5_clear_20 rfl ?_
  refine rb_cs (rest := []) [.ref (mAd bs (o + 3)), .int (mI 0)] B hw (cb_fill l D cy bs qs qv qf ho.2.2.2.1 (by decide) (by omega) z2) km_J7_fill_53178 ks_J7_fill_53178 lm_X5_31 dX5_clear_21 hl.1 rfl rfl (Nat.le_of_ble_eq_true rfl) ⟨by decide, by decide⟩ ⟨Nat.le_refl _, Nat.le_refl _⟩ (fun H locs hw => ?_)
  refine lv_aload_n hx hb dX5_clear_24 rfl (lv_at hl 0 rfl) ?_
  refine lv_iconst (v := mI 0) hx hb dX5_clear_25 rfl ?_
  refine rb_puti 0 B hw (by omega) ho.1 fd_5_4 fp_5_4 rfl rfl lf_X5_37 dX5_clear_26 (fun H locs hw => ?_)
  refine lv_aload_n hx hb dX5_clear_29 rfl (lv_at hl 0 rfl) ?_
  refine lv_iconst (v := mI 0) hx hb dX5_clear_30 rfl ?_
  refine rb_puti 0 B hw (by omega) ho.1 fd_5_5 fp_5_5 rfl rfl lf_X5_41 dX5_clear_31 (fun H locs hw => ?_)
  refine lv_aload_n hx hb dX5_clear_34 rfl (lv_at hl 0 rfl) ?_
  refine lv_iconst (v := mI 0) hx hb dX5_clear_35 rfl ?_
  refine rb_puti 0 B hw (by omega) ho.1 fd_5_6 fp_5_6 rfl rfl lf_X5_44 dX5_clear_36 (fun H locs hw => ?_)
  refine lv_aload_n hx hb dX5_clear_39 rfl (lv_at hl 0 rfl) ?_
  refine lv_iconst (v := mI 0) hx hb dX5_clear_40 rfl ?_
  refine rb_puti 0 B hw (by omega) ho.1 fd_5_7 fp_5_7 rfl rfl lf_X5_47 dX5_clear_41 (fun H locs hw => ?_)
  refine lv_aload_n hx hb dX5_clear_44 rfl (lv_at hl 0 rfl) ?_
  refine lv_iconst (v := mI 0) hx hb dX5_clear_45 rfl ?_
  refine rb_puti 0 B hw (by omega) ho.1 fd_5_8 fp_5_8 rfl rfl lf_X5_50 dX5_clear_46 (fun H locs hw => ?_)
  refine lv_aload_n hx hb dX5_clear_49 rfl (lv_at hl 0 rfl) ?_
  refine lv_iconst (v := mI 0) hx hb dX5_clear_50 rfl ?_
  refine rb_puti 0 B hw (by omega) ho.1 fd_5_9 fp_5_9 rfl rfl lf_X5_53 dX5_clear_51 (fun H locs hw => ?_)
  refine lv_aload_n hx hb dX5_clear_54 rfl (lv_at hl 0 rfl) ?_
  refine lv_iconst (v := mI 0) hx hb dX5_clear_55 rfl ?_
  refine rb_puti 0 B hw (by omega) ho.1 fd_5_10 fp_5_10 rfl rfl lf_X5_56 dX5_clear_56 (fun H locs hw => ?_)
  refine lv_aload_n hx hb dX5_clear_59 rfl (lv_at hl 0 rfl) ?_
  refine lv_iconst (v := mI 0) hx hb dX5_clear_60 rfl ?_
  refine rb_puti 0 B hw (by omega) ho.1 fd_5_11 fp_5_11 rfl rfl lf_X5_59 dX5_clear_61 (fun H locs hw => ?_)
  refine lv_aload_n hx hb dX5_clear_64 rfl (lv_at hl 0 rfl) ?_
  refine lv_sipush (v := mI 500) hx hb dX5_clear_65 (by decide) ?_
  refine rb_puti 500 B hw (by omega) ho.1 fd_5_12 fp_5_12 rfl rfl lf_X5_62 dX5_clear_68 (fun H locs hw => ?_)
  refine lv_aload_n hx hb dX5_clear_71 rfl (lv_at hl 0 rfl) ?_
  refine lv_iconst (v := mI 0) hx hb dX5_clear_72 rfl ?_
  refine rb_puti 0 B hw (by omega) ho.1 fd_5_13 fp_5_13 rfl rfl lf_X5_65 dX5_clear_73 (fun H locs hw => ?_)
  refine lv_aload_n hx hb dX5_clear_76 rfl (lv_at hl 0 rfl) ?_
  refine lv_iconst (v := mI 0) hx hb dX5_clear_77 rfl ?_
  refine rb_puti 0 B hw (by omega) ho.1 fd_5_14 fp_5_14 rfl rfl lf_X5_68 dX5_clear_78 (fun H locs hw => ?_)
  exact rb_vret B hw dX5_clear_81 rfl (Nat.le_refl _) (Nat.le_refl _) rfl
def mFgt (σ : mMem) : mMem := (mup (mup (mup σ 54 2 0) 54 3 0) 54 4 0)
theorem cb_forget (l : Launch) (D : va_G) (cy : Nat → ClassId) (bs qs qv : Nat) (qf : Option Nat) (σ : mMem) : mBv l D cy bs qs qv qf yX3_forget cX3_forget 1 1 0 0 [.ref (mAd bs 54)] 77 σ 77 (mFgt σ) := by
  refine mBv.of (lv := [(0, .ref (mAd bs 54))]) km_X3_forget.2.2.2.2.2 (Nat.le_of_ble_eq_true rfl) rfl (fun p e s m args below meth c H locs ls B hN hw hl => ?_)
  obtain ⟨hx, hb, -, -, -⟩ := B.1.1
  refine lv_aload_n hx hb dX3_forget_0 rfl (lv_at hl 0 rfl) ?_
  refine lv_iconst (v := mI 0) hx hb dX3_forget_1 rfl ?_
  refine rb_puti 0 B hw (by decide) sh_54 fd_3_2 fp_3_2 rfl rfl lf_X3_25 dX3_forget_2 (fun H locs hw => ?_)
  refine lv_aload_n hx hb dX3_forget_5 rfl (lv_at hl 0 rfl) ?_
  refine lv_iconst (v := mI 0) hx hb dX3_forget_6 rfl ?_
  refine rb_puti 0 B hw (by decide) sh_54 fd_3_3 fp_3_3 rfl rfl lf_X3_29 dX3_forget_7 (fun H locs hw => ?_)
  refine lv_aload_n hx hb dX3_forget_10 rfl (lv_at hl 0 rfl) ?_
  refine lv_iconst (v := mI 0) hx hb dX3_forget_11 rfl ?_
  refine rb_puti 0 B hw (by decide) sh_54 fd_3_4 fp_3_4 rfl rfl lf_X3_32 dX3_forget_12 (fun H locs hw => ?_)
  exact rb_vret B hw dX3_forget_15 rfl (Nat.le_of_ble_eq_true rfl) (Nat.le_of_ble_eq_true rfl) rfl
def mDfl0 (σ : mMem) : mMem := (mup (mup (mup σ 97 (mw ((3 * 0) + 0)).toNat 500) 97 (mw ((3 * 0) + 1)).toNat 0) 97 (mw ((3 * 0) + 2)).toNat 0)
theorem cb_dflt0 (l : Launch) (D : va_G) (cy : Nat → ClassId) (bs qs qv : Nat) (qf : Option Nat) (σ : mMem) (h0 : σ 86 23 = ((97 : Nat) : Int)) : mBv l D cy bs qs qv qf yX12_isDefault cX12_isDefault 2 1 0 0 [.ref (mAd bs 86), .int (mI 0)] 126 σ 126 (mDfl0 σ) := by
  refine mBv.of (lv := [(0, .ref (mAd bs 86)), (1, .int (mI 0))]) km_X12_isDefault.2.2.2.2.2 (Nat.le_of_ble_eq_true rfl) rfl (fun p e s m args below meth c H locs ls B hN hw hl => ?_)
  obtain ⟨hx, hb, -, -, -⟩ := B.1.1
  refine lv_aload_n hx hb dX12_isDefault_0 rfl (lv_at hl 0 rfl) ?_
  refine rb_getr (q := 97) B hw (by decide) sh_86 fd_12_23 (by decide) (by simpa [mup, mupo, mup1] using h0) lf_X12_81 dX12_isDefault_1 ?_
  refine lv_iconst (v := mI 3) hx hb dX12_isDefault_4 rfl ?_
  refine lv_iload_n hx hb dX12_isDefault_5 rfl (lv_at hl 1 rfl) ?_
  refine r_imul B.1 dX12_isDefault_6 ?_
  refine lv_iconst (v := mI 0) hx hb dX12_isDefault_7 rfl ?_
  refine r_iadd B.1 dX12_isDefault_8 ?_
  refine lv_sipush (v := mI 500) hx hb dX12_isDefault_9 (by decide) ?_
  refine rb_iast (i := ((3 * 0) + 0)) (z := 500) B hw (by decide) sh_97 (by decide) dX12_isDefault_12 (fun H locs hw => ?_)
  refine lv_aload_n hx hb dX12_isDefault_13 rfl (lv_at hl 0 rfl) ?_
  refine rb_getr (q := 97) B hw (by decide) sh_86 fd_12_23 (by decide) (by simpa [mup, mupo, mup1] using h0) lf_X12_81 dX12_isDefault_14 ?_
  refine lv_iconst (v := mI 3) hx hb dX12_isDefault_17 rfl ?_
  refine lv_iload_n hx hb dX12_isDefault_18 rfl (lv_at hl 1 rfl) ?_
  refine r_imul B.1 dX12_isDefault_19 ?_
  refine lv_iconst (v := mI 1) hx hb dX12_isDefault_20 rfl ?_
  refine r_iadd B.1 dX12_isDefault_21 ?_
  refine lv_iconst (v := mI 0) hx hb dX12_isDefault_22 rfl ?_
  refine rb_iast (i := ((3 * 0) + 1)) (z := 0) B hw (by decide) sh_97 (by decide) dX12_isDefault_23 (fun H locs hw => ?_)
  refine lv_aload_n hx hb dX12_isDefault_24 rfl (lv_at hl 0 rfl) ?_
  refine rb_getr (q := 97) B hw (by decide) sh_86 fd_12_23 (by decide) (by simpa [mup, mupo, mup1] using h0) lf_X12_81 dX12_isDefault_25 ?_
  refine lv_iconst (v := mI 3) hx hb dX12_isDefault_28 rfl ?_
  refine lv_iload_n hx hb dX12_isDefault_29 rfl (lv_at hl 1 rfl) ?_
  refine r_imul B.1 dX12_isDefault_30 ?_
  refine lv_iconst (v := mI 2) hx hb dX12_isDefault_31 rfl ?_
  refine r_iadd B.1 dX12_isDefault_32 ?_
  refine lv_iconst (v := mI 0) hx hb dX12_isDefault_33 rfl ?_
  refine rb_iast (i := ((3 * 0) + 2)) (z := 0) B hw (by decide) sh_97 (by decide) dX12_isDefault_34 (fun H locs hw => ?_)
  exact rb_vret B hw dX12_isDefault_35 rfl (Nat.le_of_ble_eq_true rfl) (Nat.le_of_ble_eq_true rfl) rfl
def mDfl1 (σ : mMem) : mMem := (mup (mup (mup σ 97 (mw ((3 * 1) + 0)).toNat 500) 97 (mw ((3 * 1) + 1)).toNat 0) 97 (mw ((3 * 1) + 2)).toNat 0)
theorem cb_dflt1 (l : Launch) (D : va_G) (cy : Nat → ClassId) (bs qs qv : Nat) (qf : Option Nat) (σ : mMem) (h0 : σ 86 23 = ((97 : Nat) : Int)) : mBv l D cy bs qs qv qf yX12_isDefault cX12_isDefault 2 1 0 0 [.ref (mAd bs 86), .int (mI 1)] 126 σ 126 (mDfl1 σ) := by
  refine mBv.of (lv := [(0, .ref (mAd bs 86)), (1, .int (mI 1))]) km_X12_isDefault.2.2.2.2.2 (Nat.le_of_ble_eq_true rfl) rfl (fun p e s m args below meth c H locs ls B hN hw hl => ?_)
  obtain ⟨hx, hb, -, -, -⟩ := B.1.1
  refine lv_aload_n hx hb dX12_isDefault_0 rfl (lv_at hl 0 rfl) ?_
  refine rb_getr (q := 97) B hw (by decide) sh_86 fd_12_23 (by decide) (by simpa [mup, mupo, mup1] using h0) lf_X12_81 dX12_isDefault_1 ?_
  refine lv_iconst (v := mI 3) hx hb dX12_isDefault_4 rfl ?_
  refine lv_iload_n hx hb dX12_isDefault_5 rfl (lv_at hl 1 rfl) ?_
  refine r_imul B.1 dX12_isDefault_6 ?_
  refine lv_iconst (v := mI 0) hx hb dX12_isDefault_7 rfl ?_
  refine r_iadd B.1 dX12_isDefault_8 ?_
  refine lv_sipush (v := mI 500) hx hb dX12_isDefault_9 (by decide) ?_
  refine rb_iast (i := ((3 * 1) + 0)) (z := 500) B hw (by decide) sh_97 (by decide) dX12_isDefault_12 (fun H locs hw => ?_)
  refine lv_aload_n hx hb dX12_isDefault_13 rfl (lv_at hl 0 rfl) ?_
  refine rb_getr (q := 97) B hw (by decide) sh_86 fd_12_23 (by decide) (by simpa [mup, mupo, mup1] using h0) lf_X12_81 dX12_isDefault_14 ?_
  refine lv_iconst (v := mI 3) hx hb dX12_isDefault_17 rfl ?_
  refine lv_iload_n hx hb dX12_isDefault_18 rfl (lv_at hl 1 rfl) ?_
  refine r_imul B.1 dX12_isDefault_19 ?_
  refine lv_iconst (v := mI 1) hx hb dX12_isDefault_20 rfl ?_
  refine r_iadd B.1 dX12_isDefault_21 ?_
  refine lv_iconst (v := mI 0) hx hb dX12_isDefault_22 rfl ?_
  refine rb_iast (i := ((3 * 1) + 1)) (z := 0) B hw (by decide) sh_97 (by decide) dX12_isDefault_23 (fun H locs hw => ?_)
  refine lv_aload_n hx hb dX12_isDefault_24 rfl (lv_at hl 0 rfl) ?_
  refine rb_getr (q := 97) B hw (by decide) sh_86 fd_12_23 (by decide) (by simpa [mup, mupo, mup1] using h0) lf_X12_81 dX12_isDefault_25 ?_
  refine lv_iconst (v := mI 3) hx hb dX12_isDefault_28 rfl ?_
  refine lv_iload_n hx hb dX12_isDefault_29 rfl (lv_at hl 1 rfl) ?_
  refine r_imul B.1 dX12_isDefault_30 ?_
  refine lv_iconst (v := mI 2) hx hb dX12_isDefault_31 rfl ?_
  refine r_iadd B.1 dX12_isDefault_32 ?_
  refine lv_iconst (v := mI 0) hx hb dX12_isDefault_33 rfl ?_
  refine rb_iast (i := ((3 * 1) + 2)) (z := 0) B hw (by decide) sh_97 (by decide) dX12_isDefault_34 (fun H locs hw => ?_)
  exact rb_vret B hw dX12_isDefault_35 rfl (Nat.le_of_ble_eq_true rfl) (Nat.le_of_ble_eq_true rfl) rfl
def oTx : List Int := [102, 108, 111, 111, 114, 32, 98, 121, 32, 103, 114, 101, 121, 32, 98, 111, 120, 32, 97, 116, 32, 119, 97, 121, 32, 101, 121, 101, 115, 32, 97, 112, 97, 114, 116, 32, 97, 104, 101, 97, 100, 32, 98, 105, 97, 115, 32, 115, 116, 101, 101, 114, 115, 32, 103, 111, 101, 115, 32, 112, 111, 119, 101, 114, 32, 108, 97, 109, 112, 32, 99, 97, 116, 32, 108, 101, 102, 116, 32, 114, 105, 103, 104, 116, 32, 109, 105, 100, 32, 108, 111, 115, 116, 32, 115, 116, 101, 112, 32, 116, 117, 114, 110, 101, 100, 32, 105, 102, 32, 111, 114, 32, 97, 110, 100, 32, 110, 111, 116, 32, 97, 108, 108, 32, 109, 105, 110, 32, 109, 97, 120, 32]
def oWd : List Nat := [0, 0, 0, 0, 0, 0, 1, 1, 1, 2, 2, 2, 2, 2, 3, 3, 3, 3, 4, 4, 4, 5, 5, 5, 5, 6, 6, 6, 6, 6, 7, 7, 7, 7, 7, 7, 8, 8, 8, 8, 8, 8, 9, 9, 9, 9, 9, 10, 10, 10, 10, 10, 10, 10, 11, 11, 11, 11, 11, 12, 12, 12, 12, 12, 12, 13, 13, 13, 13, 13, 14, 14, 14, 14, 15, 15, 15, 15, 15, 16, 16, 16, 16, 16, 16, 17, 17, 17, 17, 18, 18, 18, 18, 18, 19, 19, 19, 19, 19, 20, 20, 20, 20, 20, 20, 20, 21, 21, 21, 22, 22, 22, 23, 23, 23, 23, 24, 24, 24, 24, 25, 25, 25, 25, 26, 26, 26, 26, 27, 27, 27, 27, 28]
def oLt : List Nat := [0, 1, 2, 3, 4, 5, 0, 1, 2, 0, 1, 2, 3, 4, 0, 1, 2, 3, 0, 1, 2, 0, 1, 2, 3, 0, 1, 2, 3, 4, 0, 1, 2, 3, 4, 5, 0, 1, 2, 3, 4, 5, 0, 1, 2, 3, 4, 0, 1, 2, 3, 4, 5, 6, 0, 1, 2, 3, 4, 0, 1, 2, 3, 4, 5, 0, 1, 2, 3, 4, 0, 1, 2, 3, 0, 1, 2, 3, 4, 0, 1, 2, 3, 4, 5, 0, 1, 2, 3, 0, 1, 2, 3, 4, 0, 1, 2, 3, 4, 0, 1, 2, 3, 4, 5, 6, 0, 1, 2, 0, 1, 2, 0, 1, 2, 3, 0, 1, 2, 3, 0, 1, 2, 3, 0, 1, 2, 3, 0, 1, 2, 3, 0]
/-- the row of the own words behind the first k bytes of the text -/
def mOwn : Nat → Nat → Int
  | 0 => mZr
  | k + 1 => if oTx.getD k 0 = 32 then mOwn k else mup1 (mOwn k) (oWd.getD k 0) (mor (mOwn k (oWd.getD k 0)) (mshl (oTx.getD k 0 - 97 + 1) (5 * (5 - (oLt.getD k 0 : Int)))))
theorem oTx_ok : ∀ k, k < 132 → mTx.getD k 0 = mI (oTx.getD k 0) ∧ mw (oTx.getD k 0) = oTx.getD k 0 ∧ (if oTx.getD k 0 = 32 then oWd.getD (k + 1) 0 = oWd.getD k 0 + 1 ∧ oLt.getD (k + 1) 0 = 0 else oWd.getD (k + 1) 0 = oWd.getD k 0 ∧ oLt.getD (k + 1) 0 = oLt.getD k 0 + 1 ∧ oWd.getD k 0 < 28) := by decide +kernel
theorem own_ok : ∀ k, k < 28 → mOwn 132 k = xOw k := by decide +kernel
section OW
variable {p : Program} {l : Launch} {e : Env} {s : State} {m : MethodId} {args : Array Value} {below : List Frame} {meth : Method} {c : Code} {D : va_G} {cy : Nat → ClassId} {bs qs qv : Nat} {qf : Option Nat}
theorem own_loop {H : Heap} {locs : List Loc} {ls : Array Slot} {σ σ' : mMem} {cells slots mc ms : Nat} (B : mCb p m c cX8_init 6 s args RX8 meth D cy none bs qs qv qf) (hN : meth.name = yX8_init.name) (hw : mWb D cy bs 19 σ s.heap H locs) (hq : σ 14 1 = ((15 : Nat) : Int)) (hz : ∀ j, σ 15 j = 0) (hl : lv_has ls 6 [(0, .ref (mAd bs 14)), (1, .ref (mAd bs 1))]) (hc : cells ≤ mc) (hs : slots ≤ ms) (he : σ' = mupo σ 15 (mOwn 132)) :
    W p l e (mRmb 6 mc ms) s m args below meth c H locs cells slots (MQ below (mQb D cy bs 19 σ') args s mc ms (mA bs)) (F0 m 44 ls []) := by
  obtain ⟨hx, hb, hml, hown, hts⟩ := B.1.1
  have hE := B.2
  refine lv_iconst (v := mI 0) hx hb dX8_init_44 rfl ?_
  refine lv_istore_n (lv' := [(2, .int (mI 0)), (0, .ref (mAd bs 14)), (1, .ref (mAd bs 1))]) hx hb dX8_init_45 rfl hl (by decide) rfl (fun ls hl => ?_)
  refine lv_iconst (v := mI 0) hx hb dX8_init_46 rfl ?_
  refine lv_istore_n (lv' := [(3, .int (mI 0)), (2, .int (mI 0)), (0, .ref (mAd bs 14)), (1, .ref (mAd bs 1))]) hx hb dX8_init_47 rfl hl (by decide) rfl (fun ls hl => ?_)
  refine lv_iconst (v := mI 0) hx hb dX8_init_48 rfl ?_
  refine lv_istore (lv' := [(4, .int (mI 0)), (3, .int (mI 0)), (2, .int (mI 0)), (0, .ref (mAd bs 14)), (1, .ref (mAd bs 1))]) hx hb dX8_init_49 hl (by decide) rfl (fun ls hl => ?_)
  have e0 : mupo σ 15 (mOwn 0) = σ := by
    funext q j
    unfold mupo
    by_cases c1 : q = 15
    · subst c1
      rw [if_pos rfl, hz]
      rfl
    · rw [if_neg c1]
  have stp : ∀ k, k < 132 → ¬ oTx.getD k 0 = 32 → mup (mupo σ 15 (mOwn k)) 15 (oWd.getD k 0) (mor (mOwn k (oWd.getD k 0)) (mshl (oTx.getD k 0 - 97 + 1) (5 * (5 - (oLt.getD k 0 : Int))))) = mupo σ 15 (mOwn (k + 1)) := by
    intro k hk c1
    funext q j
    unfold mup mupo
    by_cases c2 : q = 15
    · subst c2
      rw [if_pos rfl, if_pos rfl, if_pos rfl]
      have e1 : mOwn (k + 1) = if oTx.getD k 0 = 32 then mOwn k else mup1 (mOwn k) (oWd.getD k 0) (mor (mOwn k (oWd.getD k 0)) (mshl (oTx.getD k 0 - 97 + 1) (5 * (5 - (oLt.getD k 0 : Int))))) := rfl
      rw [e1, if_neg c1]
    · rw [if_neg c2, if_neg c2, if_neg c2]
  have key : ∀ (d k : Nat) (H : Heap) (locs : List Loc) (ls : Array Slot), d + k = 132 → mWb D cy bs 19 (mupo σ 15 (mOwn k)) s.heap H locs → lv_has ls 6 [(4, .int (mI (k : Int))), (3, .int (mI (oLt.getD k 0 : Int))), (2, .int (mI (oWd.getD k 0 : Int))), (0, .ref (mAd bs 14))] → W p l e (mRmb 6 mc ms) s m args below meth c H locs cells slots (MQ below (mQb D cy bs 19 σ') args s mc ms (mA bs)) (F0 m 51 ls []) := by
    intro d
    induction d with
    | zero =>
      intro k H locs ls e1 hw hl
      obtain rfl : k = 132 := by omega
      obtain ⟨cell, r1, r2, r3, r4⟩ := hE.2.2.2.2.2.2.1
      refine lv_iload hx hb dX8_init_51 (lv_at hl 0 rfl) ?_
      refine va_ldcS hx hb hown hE.2.2.1 dX8_init_53 ?_
      refine pj_cv (b := qs) (rest := [.int (mI ((132 : Nat) : Int))]) (A0 := mA bs) (C := RJ0) [] B.1.1 (cp_length l bs qs qv qf H.size) mSx_bl (fun U hU hW => (by rw [hU]; exact hE.2.2.2.2.go hW.alike hw.old)) rfl hw.1.2.2.1 ⟨cell, by rw [hw.old qs (Array.getElem?_eq_some_iff.mp r1).1 r4]; exact r1, r2, r3⟩ rfl km_J0_length_8abf5 ⟨kn_J0_length_8abf5, kz_J0_length_8abf5⟩ lm_X8_32 dX8_init_55 hl.1 rfl rfl (Nat.le_of_ble_eq_true rfl) ⟨Nat.le_of_ble_eq_true rfl, Nat.le_of_ble_eq_true rfl⟩ ⟨Nat.le_trans hc (Nat.le_refl _), Nat.le_trans hs (Nat.le_refl _)⟩ (fun locs1 hS1 => ?_)
      refine lv_icmp_ge (tgt := 121) hx hb dX8_init_58 (by decide) (fun _ => ?_) (fun q => absurd (by decide) q)
      exact rb_vret B ⟨⟨hw.1.1, hw.1.2.1, hS1, hw.1.2.2.2⟩, hw.2⟩ dX8_init_121 rfl hc hs (by rw [he])
    | succ d ih =>
      intro k H locs ls e1 hw hl
      have hk : k < 132 := by omega
      obtain ⟨t1, t2, t3⟩ := oTx_ok k hk
      obtain ⟨cell, r1, r2, r3, r4⟩ := hE.2.2.2.2.2.2.1
      have hrec : ∃ cell : Cell, H[qs]? = some cell ∧ cell.vm.isStatics = false ∧ s.vm.findClass RJ0 = some cell.cls := ⟨cell, by rw [hw.old qs (Array.getElem?_eq_some_iff.mp r1).1 r4]; exact r1, r2, r3⟩
      have tk : (mI (k : Int)).toInt = (k : Int) := by rw [mI_toInt, mw_id (by omega) (by omega)]
      have k0 : ¬ mI (k : Int) < 0 := fun q => by
        have := Int32.lt_iff_toInt_lt.mp q
        rw [tk] at this
        have h0 : (0 : Int32).toInt = 0 := by decide
        omega
      have k1 : mI (k : Int) < 132 := Int32.lt_iff_toInt_lt.mpr (by
        rw [tk]
        have h0 : (132 : Int32).toInt = 132 := by decide
        omega)
      have k2 : (mI (k : Int)).toNatClampNeg = k := by
        show (mI (k : Int)).toInt.toNat = k
        rw [tk]
        omega
      refine lv_iload hx hb dX8_init_51 (lv_at hl 0 rfl) ?_
      refine va_ldcS hx hb hown hE.2.2.1 dX8_init_53 ?_
      refine pj_cv (b := qs) (rest := [.int (mI (k : Int))]) (A0 := mA bs) (C := RJ0) [] B.1.1 (cp_length l bs qs qv qf H.size) mSx_bl (fun U hU hW => (by rw [hU]; exact hE.2.2.2.2.go hW.alike hw.old)) rfl hw.1.2.2.1 hrec rfl km_J0_length_8abf5 ⟨kn_J0_length_8abf5, kz_J0_length_8abf5⟩ lm_X8_32 dX8_init_55 hl.1 rfl rfl (Nat.le_of_ble_eq_true rfl) ⟨Nat.le_of_ble_eq_true rfl, Nat.le_of_ble_eq_true rfl⟩ ⟨Nat.le_trans hc (Nat.le_refl _), Nat.le_trans hs (Nat.le_refl _)⟩ (fun locs1 hS1 => ?_)
      refine lv_icmp_ge (tgt := 121) hx hb dX8_init_58 (by decide) (fun q => absurd k1 (Int32.not_lt.mpr q)) (fun _ => ?_)
      refine va_ldcS hx hb hown hE.2.2.1 dX8_init_61 ?_
      refine lv_iload hx hb dX8_init_63 (lv_at hl 0 rfl) ?_
      refine pj_cv (b := qs) (rest := []) (A0 := mA bs) (C := RJ0) [.int (mI (k : Int))] B.1.1 (cp_charAt l bs qs qv qf H.size k2 k0 k1 hk) mSx_bl (fun U hU hW => (by rw [hU]; exact hE.2.2.2.2.go hW.alike hw.old)) rfl hS1 hrec rfl km_J0_charAt_5068e ⟨kn_J0_charAt_5068e, kz_J0_charAt_5068e⟩ lm_X8_38 dX8_init_65 hl.1 rfl rfl (Nat.le_of_ble_eq_true rfl) ⟨Nat.le_of_ble_eq_true rfl, Nat.le_of_ble_eq_true rfl⟩ ⟨Nat.le_trans hc (Nat.le_refl _), Nat.le_trans hs (Nat.le_refl _)⟩ (fun locs2 hS2 => ?_)
      rw [t1]
      have hw2 : mWb D cy bs 19 (mupo σ 15 (mOwn k)) s.heap H locs2 := ⟨⟨hw.1.1, hw.1.2.1, hS2, hw.1.2.2.2⟩, hw.2⟩
      refine lv_istore (lv' := [(5, .int (mI (oTx.getD k 0))), (4, .int (mI (k : Int))), (3, .int (mI (oLt.getD k 0 : Int))), (2, .int (mI (oWd.getD k 0 : Int))), (0, .ref (mAd bs 14))]) hx hb dX8_init_68 hl (by decide) rfl (fun ls hl => ?_)
      refine lv_iload hx hb dX8_init_70 (lv_at hl 0 rfl) ?_
      refine lv_bipush (v := mI 32) hx hb dX8_init_72 (by decide) ?_
      refine lv_icmp_ne (tgt := 85) hx hb dX8_init_74 (by decide) (fun q => ?_) (fun q => ?_)
      · have c1 : ¬ oTx.getD k 0 = 32 := fun h => q (by rw [h])
        rw [if_neg c1] at t3
        obtain ⟨t3, t4, t5⟩ := t3
        refine lv_iload_n hx hb dX8_init_85 rfl (lv_at hl 3 rfl) ?_
        refine lv_bipush (v := mI 28) hx hb dX8_init_86 (by decide) ?_
        refine lv_icmp_ge (tgt := 115) hx hb dX8_init_88 (by decide) (fun q => absurd (mI_le.mp q) (by rw [mw_id (by omega) (by omega), mw_id (by omega) (by omega)]; omega)) (fun _ => ?_)
        refine lv_aload_n hx hb dX8_init_91 rfl (lv_at hl 4 rfl) ?_
        refine rb_getr (q := 15) B hw2 (by decide) sh_14 fd_8_1 (by decide) hq lf_X8_11 dX8_init_92 ?_
        refine lv_iload_n hx hb dX8_init_95 rfl (lv_at hl 3 rfl) ?_
        refine lv_dup2_11 hx hb dX8_init_96 rfl rfl ?_
        have hi : 0 ≤ mw (oWd.getD k 0 : Int) ∧ mw (oWd.getD k 0 : Int) < ((28 : Nat) : Int) := by rw [mw_id (by omega) (by omega)]; omega
        have hi2 : (mw (oWd.getD k 0 : Int)).toNat = oWd.getD k 0 := by rw [mw_id (by omega) (by omega)]; omega
        refine rb_iald B hw2 (by decide) sh_15 hi dX8_init_97 ?_
        rw [hi2]
        refine lv_iload hx hb dX8_init_98 (lv_at hl 0 rfl) ?_
        refine lv_bipush (v := mI 97) hx hb dX8_init_100 (by decide) ?_
        refine r_isub B.1 dX8_init_102 ?_
        refine lv_iconst (v := mI 1) hx hb dX8_init_103 rfl ?_
        refine r_iadd B.1 dX8_init_104 ?_
        refine lv_iload_n hx hb dX8_init_105 rfl (lv_at hl 2 rfl) ?_
        refine pj_cs (rest := [.int (mI (oTx.getD k 0 - 97 + 1)), .int (mI (mupo σ 15 (mOwn k) 15 (oWd.getD k 0))), .int (mI (oWd.getD k 0 : Int)), .ref (mAd bs 15)]) (A0 := mA bs) [.int (mI (oLt.getD k 0 : Int))] B.1.1 (cp_shiftOf l H.size _) (fun _ _ _ _ h => h) (fun _ _ _ => trivial) rfl hS2 km_X5_shiftOf ks_X5_shiftOf lm_X8_42 dX8_init_106 hl.1 rfl rfl (Nat.le_of_ble_eq_true rfl) ⟨Nat.le_of_ble_eq_true rfl, Nat.le_of_ble_eq_true rfl⟩ ⟨Nat.le_trans hc (Nat.le_refl _), Nat.le_trans hs (Nat.le_refl _)⟩ (fun locs3 hS3 => ?_)
        have hw3 : mWb D cy bs 19 (mupo σ 15 (mOwn k)) s.heap H locs3 := ⟨⟨hw.1.1, hw.1.2.1, hS3, hw.1.2.2.2⟩, hw.2⟩
        refine r_ishl B.1 dX8_init_109 ?_
        refine r_ior B.1 dX8_init_110 ?_
        refine rb_iast (i := (oWd.getD k 0 : Int)) B hw3 (by decide) sh_15 hi dX8_init_111 (fun H1 locs4 hw4 => ?_)
        have e15 : mupo σ 15 (mOwn k) 15 (oWd.getD k 0) = mOwn k (oWd.getD k 0) := by unfold mupo; rw [if_pos rfl]
        rw [hi2, e15, stp k hk c1] at hw4
        refine lv_iinc (v := mI (oLt.getD (k + 1) 0 : Int)) (lv' := [(3, .int (mI (oLt.getD (k + 1) 0 : Int))), (5, .int (mI (oTx.getD k 0))), (4, .int (mI (k : Int))), (2, .int (mI (oWd.getD k 0 : Int))), (0, .ref (mAd bs 14))]) hx hb dX8_init_112 hl (k := 2) rfl (by rw [t4, show ((oLt.getD k 0 + 1 : Nat) : Int) = (oLt.getD k 0 : Int) + 1 by omega]; exact mI_add _ _) (by decide) rfl (fun ls hl => ?_)
        refine lv_iinc (v := mI ((k + 1 : Nat) : Int)) (lv' := [(4, .int (mI ((k + 1 : Nat) : Int))), (3, .int (mI (oLt.getD (k + 1) 0 : Int))), (5, .int (mI (oTx.getD k 0))), (2, .int (mI (oWd.getD k 0 : Int))), (0, .ref (mAd bs 14))]) hx hb dX8_init_115 hl (k := 2) rfl (by rw [show ((k + 1 : Nat) : Int) = (k : Int) + 1 by omega]; exact mI_add _ _) (by decide) rfl (fun ls hl => ?_)
        refine lv_goto (tgt := 51) hx hb dX8_init_118 (by decide) ?_
        exact ih (k + 1) H1 locs4 ls (by omega) hw4 (by rw [t3]; exact lv_sub hl [0, 1, 3, 4] rfl)
      · have c1 : oTx.getD k 0 = 32 := by
          have q2 := mI_eq.mp q
          rw [t2, mw_id (by omega) (by omega)] at q2
          exact q2
        rw [if_pos c1] at t3
        obtain ⟨t3, t4⟩ := t3
        have e5 : mOwn (k + 1) = mOwn k := by
          show (if oTx.getD k 0 = 32 then mOwn k else _) = _
          rw [if_pos c1]
        refine lv_iinc (v := mI (oWd.getD (k + 1) 0 : Int)) (lv' := [(2, .int (mI (oWd.getD (k + 1) 0 : Int))), (5, .int (mI (oTx.getD k 0))), (4, .int (mI (k : Int))), (3, .int (mI (oLt.getD k 0 : Int))), (0, .ref (mAd bs 14))]) hx hb dX8_init_77 hl (k := 3) rfl (by rw [t3, show ((oWd.getD k 0 + 1 : Nat) : Int) = (oWd.getD k 0 : Int) + 1 by omega]; exact mI_add _ _) (by decide) rfl (fun ls hl => ?_)
        refine lv_iconst (v := mI 0) hx hb dX8_init_80 rfl ?_
        refine lv_istore_n (lv' := [(3, .int (mI 0)), (2, .int (mI (oWd.getD (k + 1) 0 : Int))), (5, .int (mI (oTx.getD k 0))), (4, .int (mI (k : Int))), (0, .ref (mAd bs 14))]) hx hb dX8_init_81 rfl hl (by decide) rfl (fun ls hl => ?_)
        refine lv_goto (tgt := 115) hx hb dX8_init_82 (by decide) ?_
        refine lv_iinc (v := mI ((k + 1 : Nat) : Int)) (lv' := [(4, .int (mI ((k + 1 : Nat) : Int))), (3, .int (mI 0)), (2, .int (mI (oWd.getD (k + 1) 0 : Int))), (5, .int (mI (oTx.getD k 0))), (0, .ref (mAd bs 14))]) hx hb dX8_init_115 hl (k := 3) rfl (by rw [show ((k + 1 : Nat) : Int) = (k : Int) + 1 by omega]; exact mI_add _ _) (by decide) rfl (fun ls hl => ?_)
        refine lv_goto (tgt := 51) hx hb dX8_init_118 (by decide) ?_
        exact ih (k + 1) H locs2 ls (by omega) (by rw [e5]; exact hw2) (by rw [t4]; exact lv_sub hl [0, 1, 2, 4] rfl)
  exact key 132 0 H locs ls (by omega) (by rw [e0]; exact hw) (lv_sub hl [0, 1, 2, 3] rfl)
end OW
