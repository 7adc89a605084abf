/-! LAYER 1: the constructors (written by geninit.py) -/
def i_1 (σ : mMem) : mMem := (mup (mup (mupo σ 2 mZr) 1 0 ((2 : Nat) : Int)) 1 1 0)
set_option maxRecDepth 100000 in
set_option maxHeartbeats 4000000 in
theorem ci_1 (l : Launch) (D : va_G) (cy : Nat → ClassId) (bs qs qv : Nat) (qf : Option Nat) (σ : mMem) : mBv l D cy bs qs qv qf yX7_init cX7_init 1 1 1 1600 [.ref (mAd bs 1)] 2 σ 3 (i_1 σ) := by
  refine mBv.of (lv := [(0, .ref (mAd bs 1))]) km_X7_init.2.2.2.2.2 (Nat.le_of_ble_eq_true rfl) rfl (fun p e s m args below meth c H locs ls B hN hw hl => ?_)
  obtain ⟨hx, hb, -, -, -⟩ := B.1.1
  refine lv_aload_n hx hb dX7_init_0 rfl (lv_at hl 0 rfl) ?_
  refine rb_obj (rest := []) B hl.1 lm_X7_3 ⟨by decide, by decide⟩ (Nat.le_of_ble_eq_true rfl) dX7_init_1 ?_
  refine lv_aload_n hx hb dX7_init_4 rfl (lv_at hl 0 rfl) ?_
  refine lv_sipush (v := mI 1600) hx hb dX7_init_5 (by decide) ?_
  refine rb_newi (n := 2) (len := 1600) B hw sh_2 rfl (by decide) (Nat.le_of_ble_eq_true rfl) (Nat.le_of_ble_eq_true rfl) dX7_init_8 (fun H hw => ?_)
  refine W.widen (k := 1) (n := 1600) (Nat.le_of_ble_eq_true rfl) (Nat.le_of_ble_eq_true rfl) ?_
  refine rb_putF (q := 2) B hN hw (by decide) sh_1 fd_7_0 tyX7_ok nmX7 ⟨rfl, rfl⟩ (by decide) (mRt_a _) lf_X7_11 dX7_init_10 (fun H locs hw => ?_)
  refine lv_aload_n hx hb dX7_init_13 rfl (lv_at hl 0 rfl) ?_
  refine lv_iconst (v := mI 0) hx hb dX7_init_14 rfl ?_
  refine rb_puti 0 B hw (by decide) sh_1 fd_7_1 fp_7_1 rfl rfl lf_X7_15 dX7_init_15 (fun H locs hw => ?_)
  exact rb_vret B hw dX7_init_18 rfl (Nat.le_of_ble_eq_true rfl) (Nat.le_of_ble_eq_true rfl) rfl
def i_3 (σ : mMem) : mMem := (mClr 3 (mup (mupo (mup (mupo (mup (mupo (mup (mupo σ 4 mZr) 3 0 ((4 : Nat) : Int)) 5 mZr) 3 1 ((5 : Nat) : Int)) 6 mZr) 3 2 ((6 : Nat) : Int)) 7 mZr) 3 3 ((7 : Nat) : Int)))
set_option maxRecDepth 100000 in
set_option maxHeartbeats 4000000 in
theorem ci_3 (l : Launch) (D : va_G) (cy : Nat → ClassId) (bs qs qv : Nat) (qf : Option Nat) (σ : mMem) : mBv l D cy bs qs qv qf yX5_init cX5_init 1 3 4 1747 [.ref (mAd bs 3)] 4 σ 8 (i_3 σ) := by
  refine mBv.of (lv := [(0, .ref (mAd bs 3))]) km_X5_init.2.2.2.2.2 (Nat.le_of_ble_eq_true rfl) rfl (fun p e s m args below meth c H locs ls B hN hw hl => ?_)
  obtain ⟨hx, hb, -, -, -⟩ := B.1.1
  refine lv_aload_n hx hb dX5_init_0 rfl (lv_at hl 0 rfl) ?_
  refine rb_obj (rest := []) B hl.1 lm_X5_3 ⟨by decide, by decide⟩ (Nat.le_of_ble_eq_true rfl) dX5_init_1 ?_
  refine lv_aload_n hx hb dX5_init_4 rfl (lv_at hl 0 rfl) ?_
  refine lv_bipush (v := mI 81) hx hb dX5_init_5 (by decide) ?_
  refine rb_newi (n := 4) (len := 81) B hw sh_4 rfl (by decide) (Nat.le_of_ble_eq_true rfl) (Nat.le_of_ble_eq_true rfl) dX5_init_7 (fun H hw => ?_)
  refine W.widen (k := 1) (n := 81) (Nat.le_of_ble_eq_true rfl) (Nat.le_of_ble_eq_true rfl) ?_
  refine rb_putF (q := 4) B hN hw (by decide) sh_3 fd_5_0 tyX5_ok nmX5 ⟨rfl, rfl⟩ (by decide) (mRt_a _) lf_X5_11 dX5_init_9 (fun H locs hw => ?_)
  refine lv_aload_n hx hb dX5_init_12 rfl (lv_at hl 0 rfl) ?_
  refine lv_bipush (v := mI 6) hx hb dX5_init_13 (by decide) ?_
  refine rb_newi (n := 5) (len := 6) B hw sh_5 rfl (by decide) (Nat.le_of_ble_eq_true rfl) (Nat.le_of_ble_eq_true rfl) dX5_init_15 (fun H hw => ?_)
  refine W.widen (k := 2) (n := 87) (Nat.le_of_ble_eq_true rfl) (Nat.le_of_ble_eq_true rfl) ?_
  refine rb_putF (q := 5) B hN hw (by decide) sh_3 fd_5_1 tyX5_ok nmX5 ⟨rfl, rfl⟩ (by decide) (mRt_a _) lf_X5_15 dX5_init_17 (fun H locs hw => ?_)
  refine lv_aload_n hx hb dX5_init_20 rfl (lv_at hl 0 rfl) ?_
  refine lv_bipush (v := mI 60) hx hb dX5_init_21 (by decide) ?_
  refine rb_newi (n := 6) (len := 60) B hw sh_6 rfl (by decide) (Nat.le_of_ble_eq_true rfl) (Nat.le_of_ble_eq_true rfl) dX5_init_23 (fun H hw => ?_)
  refine W.widen (k := 3) (n := 147) (Nat.le_of_ble_eq_true rfl) (Nat.le_of_ble_eq_true rfl) ?_
  refine rb_putF (q := 6) B hN hw (by decide) sh_3 fd_5_2 tyX5_ok nmX5 ⟨rfl, rfl⟩ (by decide) (mRt_a _) lf_X5_20 dX5_init_25 (fun H locs hw => ?_)
  refine lv_aload_n hx hb dX5_init_28 rfl (lv_at hl 0 rfl) ?_
  refine lv_sipush (v := mI 1600) hx hb dX5_init_29 (by decide) ?_
  refine rb_newi (n := 7) (len := 1600) B hw sh_7 rfl (by decide) (Nat.le_of_ble_eq_true rfl) (Nat.le_of_ble_eq_true rfl) dX5_init_32 (fun H hw => ?_)
  refine W.widen (k := 4) (n := 1747) (Nat.le_of_ble_eq_true rfl) (Nat.le_of_ble_eq_true rfl) ?_
  refine rb_putF (q := 7) B hN hw (by decide) sh_3 fd_5_3 tyX5_ok nmX5 ⟨rfl, rfl⟩ (by decide) (mRt_a _) lf_X5_25 dX5_init_34 (fun H locs hw => ?_)
  refine lv_aload_n hx hb dX5_init_37 rfl (lv_at hl 0 rfl) ?_
  refine rb_cv (o := 3) (rest := []) [] B hw (cb_clear l D cy bs qs qv qf (o := 3) sh_p3 (by decide) rfl rfl rfl (fun _ _ => rfl) (fun _ _ => rfl) (fun _ _ => rfl)) (by decide) sh_3 rfl (by decide) rfl km_X5_clear kv_X5_clear lm_X5_28 dX5_init_38 hl.1 rfl rfl (Nat.le_of_ble_eq_true rfl) ⟨by decide, by decide⟩ ⟨Nat.le_of_ble_eq_true rfl, Nat.le_of_ble_eq_true rfl⟩ (fun H locs hw => ?_)
  exact rb_vret B hw dX5_init_41 rfl (Nat.le_of_ble_eq_true rfl) (Nat.le_of_ble_eq_true rfl) rfl
def i_8 (σ : mMem) : mMem := (mClr 8 (mup (mupo (mup (mupo (mup (mupo (mup (mupo σ 9 mZr) 8 0 ((9 : Nat) : Int)) 10 mZr) 8 1 ((10 : Nat) : Int)) 11 mZr) 8 2 ((11 : Nat) : Int)) 12 mZr) 8 3 ((12 : Nat) : Int)))
set_option maxRecDepth 100000 in
set_option maxHeartbeats 4000000 in
theorem ci_8 (l : Launch) (D : va_G) (cy : Nat → ClassId) (bs qs qv : Nat) (qf : Option Nat) (σ : mMem) : mBv l D cy bs qs qv qf yX5_init cX5_init 1 3 4 1747 [.ref (mAd bs 8)] 9 σ 13 (i_8 σ) := by
  refine mBv.of (lv := [(0, .ref (mAd bs 8))]) km_X5_init.2.2.2.2.2 (Nat.le_of_ble_eq_true rfl) rfl (fun p e s m args below meth c H locs ls B hN hw hl => ?_)
  obtain ⟨hx, hb, -, -, -⟩ := B.1.1
  refine lv_aload_n hx hb dX5_init_0 rfl (lv_at hl 0 rfl) ?_
  refine rb_obj (rest := []) B hl.1 lm_X5_3 ⟨by decide, by decide⟩ (Nat.le_of_ble_eq_true rfl) dX5_init_1 ?_
  refine lv_aload_n hx hb dX5_init_4 rfl (lv_at hl 0 rfl) ?_
  refine lv_bipush (v := mI 81) hx hb dX5_init_5 (by decide) ?_
  refine rb_newi (n := 9) (len := 81) B hw sh_9 rfl (by decide) (Nat.le_of_ble_eq_true rfl) (Nat.le_of_ble_eq_true rfl) dX5_init_7 (fun H hw => ?_)
  refine W.widen (k := 1) (n := 81) (Nat.le_of_ble_eq_true rfl) (Nat.le_of_ble_eq_true rfl) ?_
  refine rb_putF (q := 9) B hN hw (by decide) sh_8 fd_5_0 tyX5_ok nmX5 ⟨rfl, rfl⟩ (by decide) (mRt_a _) lf_X5_11 dX5_init_9 (fun H locs hw => ?_)
  refine lv_aload_n hx hb dX5_init_12 rfl (lv_at hl 0 rfl) ?_
  refine lv_bipush (v := mI 6) hx hb dX5_init_13 (by decide) ?_
  refine rb_newi (n := 10) (len := 6) B hw sh_10 rfl (by decide) (Nat.le_of_ble_eq_true rfl) (Nat.le_of_ble_eq_true rfl) dX5_init_15 (fun H hw => ?_)
  refine W.widen (k := 2) (n := 87) (Nat.le_of_ble_eq_true rfl) (Nat.le_of_ble_eq_true rfl) ?_
  refine rb_putF (q := 10) B hN hw (by decide) sh_8 fd_5_1 tyX5_ok nmX5 ⟨rfl, rfl⟩ (by decide) (mRt_a _) lf_X5_15 dX5_init_17 (fun H locs hw => ?_)
  refine lv_aload_n hx hb dX5_init_20 rfl (lv_at hl 0 rfl) ?_
  refine lv_bipush (v := mI 60) hx hb dX5_init_21 (by decide) ?_
  refine rb_newi (n := 11) (len := 60) B hw sh_11 rfl (by decide) (Nat.le_of_ble_eq_true rfl) (Nat.le_of_ble_eq_true rfl) dX5_init_23 (fun H hw => ?_)
  refine W.widen (k := 3) (n := 147) (Nat.le_of_ble_eq_true rfl) (Nat.le_of_ble_eq_true rfl) ?_
  refine rb_putF (q := 11) B hN hw (by decide) sh_8 fd_5_2 tyX5_ok nmX5 ⟨rfl, rfl⟩ (by decide) (mRt_a _) lf_X5_20 dX5_init_25 (fun H locs hw => ?_)
  refine lv_aload_n hx hb dX5_init_28 rfl (lv_at hl 0 rfl) ?_
  refine lv_sipush (v := mI 1600) hx hb dX5_init_29 (by decide) ?_
  refine rb_newi (n := 12) (len := 1600) B hw sh_12 rfl (by decide) (Nat.le_of_ble_eq_true rfl) (Nat.le_of_ble_eq_true rfl) dX5_init_32 (fun H hw => ?_)
  refine W.widen (k := 4) (n := 1747) (Nat.le_of_ble_eq_true rfl) (Nat.le_of_ble_eq_true rfl) ?_
  refine rb_putF (q := 12) B hN hw (by decide) sh_8 fd_5_3 tyX5_ok nmX5 ⟨rfl, rfl⟩ (by decide) (mRt_a _) lf_X5_25 dX5_init_34 (fun H locs hw => ?_)
  refine lv_aload_n hx hb dX5_init_37 rfl (lv_at hl 0 rfl) ?_
  refine rb_cv (o := 8) (rest := []) [] B hw (cb_clear l D cy bs qs qv qf (o := 8) sh_p8 (by decide) rfl rfl rfl (fun _ _ => rfl) (fun _ _ => rfl) (fun _ _ => rfl)) (by decide) sh_8 rfl (by decide) rfl km_X5_clear kv_X5_clear lm_X5_28 dX5_init_38 hl.1 rfl rfl (Nat.le_of_ble_eq_true rfl) ⟨by decide, by decide⟩ ⟨Nat.le_of_ble_eq_true rfl, Nat.le_of_ble_eq_true rfl⟩ (fun H locs hw => ?_)
  exact rb_vret B hw dX5_init_41 rfl (Nat.le_of_ble_eq_true rfl) (Nat.le_of_ble_eq_true rfl) rfl
def i_14 (σ : mMem) : mMem := (mupo (mup (mup (mupo (mup (mupo (mup (mupo (mup (mupo σ 15 mZr) 14 1 ((15 : Nat) : Int)) 16 mZr) 14 2 ((16 : Nat) : Int)) 17 mZr) 14 3 ((17 : Nat) : Int)) 18 mZr) 14 4 ((18 : Nat) : Int)) 14 0 ((1 : Nat) : Int)) 15 (mOwn 132))
set_option maxRecDepth 100000 in
set_option maxHeartbeats 4000000 in
theorem ci_14 (l : Launch) (D : va_G) (cy : Nat → ClassId) (bs qs qv : Nat) (qf : Option Nat) (σ : mMem) : mBv l D cy bs qs qv qf yX8_init cX8_init 6 6 4 4828 [.ref (mAd bs 14), .ref (mAd bs 1)] 15 σ 19 (i_14 σ) := by
  refine mBv.of (lv := [(0, .ref (mAd bs 14)), (1, .ref (mAd bs 1))]) km_X8_init.2.2.2.2.2 (Nat.le_of_ble_eq_true rfl) rfl (fun p e s m args below meth c H locs ls B hN hw hl => ?_)
  obtain ⟨hx, hb, -, -, -⟩ := B.1.1
  refine lv_aload_n hx hb dX8_init_0 rfl (lv_at hl 0 rfl) ?_
  refine rb_obj (rest := []) B hl.1 lm_X8_3 ⟨by decide, by decide⟩ (Nat.le_of_ble_eq_true rfl) dX8_init_1 ?_
  refine lv_aload_n hx hb dX8_init_4 rfl (lv_at hl 0 rfl) ?_
  refine lv_bipush (v := mI 28) hx hb dX8_init_5 (by decide) ?_
  refine rb_newi (n := 15) (len := 28) B hw sh_15 rfl (by decide) (Nat.le_of_ble_eq_true rfl) (Nat.le_of_ble_eq_true rfl) dX8_init_7 (fun H hw => ?_)
  refine W.widen (k := 1) (n := 28) (Nat.le_of_ble_eq_true rfl) (Nat.le_of_ble_eq_true rfl) ?_
  refine rb_putF (q := 15) B hN hw (by decide) sh_14 fd_8_1 tyX8_ok nmX8 ⟨rfl, rfl⟩ (by decide) (mRt_a _) lf_X8_11 dX8_init_9 (fun H locs hw => ?_)
  refine lv_aload_n hx hb dX8_init_12 rfl (lv_at hl 0 rfl) ?_
  refine lv_sipush (v := mI 1600) hx hb dX8_init_13 (by decide) ?_
  refine rb_newi (n := 16) (len := 1600) B hw sh_16 rfl (by decide) (Nat.le_of_ble_eq_true rfl) (Nat.le_of_ble_eq_true rfl) dX8_init_16 (fun H hw => ?_)
  refine W.widen (k := 2) (n := 1628) (Nat.le_of_ble_eq_true rfl) (Nat.le_of_ble_eq_true rfl) ?_
  refine rb_putF (q := 16) B hN hw (by decide) sh_14 fd_8_2 tyX8_ok nmX8 ⟨rfl, rfl⟩ (by decide) (mRt_a _) lf_X8_17 dX8_init_18 (fun H locs hw => ?_)
  refine lv_aload_n hx hb dX8_init_21 rfl (lv_at hl 0 rfl) ?_
  refine lv_sipush (v := mI 1600) hx hb dX8_init_22 (by decide) ?_
  refine rb_newi (n := 17) (len := 1600) B hw sh_17 rfl (by decide) (Nat.le_of_ble_eq_true rfl) (Nat.le_of_ble_eq_true rfl) dX8_init_25 (fun H hw => ?_)
  refine W.widen (k := 3) (n := 3228) (Nat.le_of_ble_eq_true rfl) (Nat.le_of_ble_eq_true rfl) ?_
  refine rb_putF (q := 17) B hN hw (by decide) sh_14 fd_8_3 tyX8_ok nmX8 ⟨rfl, rfl⟩ (by decide) (mRt_a _) lf_X8_20 dX8_init_27 (fun H locs hw => ?_)
  refine lv_aload_n hx hb dX8_init_30 rfl (lv_at hl 0 rfl) ?_
  refine lv_sipush (v := mI 1600) hx hb dX8_init_31 (by decide) ?_
  refine rb_newi (n := 18) (len := 1600) B hw sh_18 rfl (by decide) (Nat.le_of_ble_eq_true rfl) (Nat.le_of_ble_eq_true rfl) dX8_init_34 (fun H hw => ?_)
  refine W.widen (k := 4) (n := 4828) (Nat.le_of_ble_eq_true rfl) (Nat.le_of_ble_eq_true rfl) ?_
  refine rb_putF (q := 18) B hN hw (by decide) sh_14 fd_8_4 tyX8_ok nmX8 ⟨rfl, rfl⟩ (by decide) (mRt_a _) lf_X8_23 dX8_init_36 (fun H locs hw => ?_)
  refine lv_aload_n hx hb dX8_init_39 rfl (lv_at hl 0 rfl) ?_
  refine lv_aload_n hx hb dX8_init_40 rfl (lv_at hl 1 rfl) ?_
  refine rb_putF (q := 1) B hN hw (by decide) sh_14 fd_8_0 tyX8_ok nmX8 ⟨rfl, rfl⟩ (by decide) (mRt_o _) lf_X8_26 dX8_init_41 (fun H locs hw => ?_)
  exact own_loop B hN hw rfl (fun _ => rfl) hl (Nat.le_of_ble_eq_true rfl) (Nat.le_of_ble_eq_true rfl) rfl
def i_19 (σ : mMem) : mMem := (mup (mup (mup σ 19 0 ((14 : Nat) : Int)) 19 1 ((8 : Nat) : Int)) 19 2 0)
set_option maxRecDepth 100000 in
set_option maxHeartbeats 4000000 in
theorem ci_19 (l : Launch) (D : va_G) (cy : Nat → ClassId) (bs qs qv : Nat) (qf : Option Nat) (σ : mMem) : mBv l D cy bs qs qv qf yX1_init cX1_init 3 1 0 0 [.ref (mAd bs 19), .ref (mAd bs 14), .ref (mAd bs 8)] 20 σ 20 (i_19 σ) := by
  refine mBv.of (lv := [(0, .ref (mAd bs 19)), (1, .ref (mAd bs 14)), (2, .ref (mAd bs 8))]) km_X1_init.2.2.2.2.2 (Nat.le_of_ble_eq_true rfl) rfl (fun p e s m args below meth c H locs ls B hN hw hl => ?_)
  obtain ⟨hx, hb, -, -, -⟩ := B.1.1
  refine lv_aload_n hx hb dX1_init_0 rfl (lv_at hl 0 rfl) ?_
  refine rb_obj (rest := []) B hl.1 lm_X1_3 ⟨by decide, by decide⟩ (Nat.le_of_ble_eq_true rfl) dX1_init_1 ?_
  refine lv_aload_n hx hb dX1_init_4 rfl (lv_at hl 0 rfl) ?_
  refine lv_aload_n hx hb dX1_init_5 rfl (lv_at hl 1 rfl) ?_
  refine rb_putF (q := 14) B hN hw (by decide) sh_19 fd_1_0 tyX1_ok nmX1 ⟨rfl, rfl⟩ (by decide) (mRt_o _) lf_X1_9 dX1_init_6 (fun H locs hw => ?_)
  refine lv_aload_n hx hb dX1_init_9 rfl (lv_at hl 0 rfl) ?_
  refine lv_aload_n hx hb dX1_init_10 rfl (lv_at hl 2 rfl) ?_
  refine rb_putR (q := 8) B hw (by decide) sh_19 fd_1_1 fp_1_1 (by decide) (mRt_o _) lf_X1_15 dX1_init_11 (fun H locs hw => ?_)
  refine lv_aload_n hx hb dX1_init_14 rfl (lv_at hl 0 rfl) ?_
  refine lv_iconst (v := mI 0) hx hb dX1_init_15 rfl ?_
  refine rb_putz 0 B hw (by decide) sh_19 fd_1_2 fp_1_2 rfl rfl (by decide) lf_X1_19 dX1_init_16 (fun H locs hw => ?_)
  exact rb_vret B hw dX1_init_19 rfl (Nat.le_of_ble_eq_true rfl) (Nat.le_of_ble_eq_true rfl) rfl
def i_13 (σ : mMem) : mMem := (mup (mup (i_19 (mupo (mup (i_14 (mupo σ 14 (mNew 8))) 13 0 ((14 : Nat) : Int)) 19 (mNew 1))) 13 1 ((19 : Nat) : Int)) 13 2 ((8 : Nat) : Int))
set_option maxRecDepth 100000 in
set_option maxHeartbeats 4000000 in
theorem ci_13 (l : Launch) (D : va_G) (cy : Nat → ClassId) (bs qs qv : Nat) (qf : Option Nat) (σ : mMem) : mBv l D cy bs qs qv qf yX6_init cX6_init 3 7 6 4843 [.ref (mAd bs 13), .ref (mAd bs 1), .ref (mAd bs 8)] 14 σ 20 (i_13 σ) := by
  refine mBv.of (lv := [(0, .ref (mAd bs 13)), (1, .ref (mAd bs 1)), (2, .ref (mAd bs 8))]) km_X6_init.2.2.2.2.2 (Nat.le_of_ble_eq_true rfl) rfl (fun p e s m args below meth c H locs ls B hN hw hl => ?_)
  obtain ⟨hx, hb, -, -, -⟩ := B.1.1
  refine lv_aload_n hx hb dX6_init_0 rfl (lv_at hl 0 rfl) ?_
  refine rb_obj (rest := []) B hl.1 lm_X6_3 ⟨by decide, by decide⟩ (Nat.le_of_ble_eq_true rfl) dX6_init_1 ?_
  refine lv_aload_n hx hb dX6_init_4 rfl (lv_at hl 0 rfl) ?_
  refine rb_new (n := 14) B hw sh_14 (by decide) rfl in_X8 tyX8_ok (hd_X8 _ _) kl_X6_9 kj_X8 ii_X8 (Nat.le_of_ble_eq_true rfl) (Nat.le_of_ble_eq_true rfl) dX6_init_5 (fun H hw => ?_)
  refine W.widen (k := 1) (n := 12) (Nat.le_of_ble_eq_true rfl) (Nat.le_of_ble_eq_true rfl) ?_
  refine lv_dup hx hb dX6_init_8 rfl ?_
  refine lv_aload_n hx hb dX6_init_9 rfl (lv_at hl 1 rfl) ?_
  refine rb_ci (o := 14) (rest := [.ref (mAd bs 14), .ref (mAd bs 13)]) [.ref (mAd bs 1)] B hw (ci_14 l D cy bs qs qv qf _) km_X8_init kn_X8_init rfl lm_X6_11 dX6_init_10 hl.1 rfl rfl (Nat.le_of_ble_eq_true rfl) ⟨by decide, by decide⟩ ⟨Nat.le_of_ble_eq_true rfl, Nat.le_of_ble_eq_true rfl⟩ (fun H locs hw => ?_)
  refine W.widen (k := 5) (n := 4840) (Nat.le_of_ble_eq_true rfl) (Nat.le_of_ble_eq_true rfl) ?_
  refine rb_putF (q := 14) B hN hw (by decide) sh_13 fd_6_0 tyX6_ok nmX6 ⟨rfl, rfl⟩ (by decide) (mRt_o _) lf_X6_14 dX6_init_13 (fun H locs hw => ?_)
  refine lv_aload_n hx hb dX6_init_16 rfl (lv_at hl 0 rfl) ?_
  refine rb_new (n := 19) B hw sh_19 (by decide) rfl in_X1 tyX1_ok (hd_X1 _ _) kl_X6_20 kj_X1 ii_X1 (Nat.le_of_ble_eq_true rfl) (Nat.le_of_ble_eq_true rfl) dX6_init_17 (fun H hw => ?_)
  refine W.widen (k := 6) (n := 4843) (Nat.le_of_ble_eq_true rfl) (Nat.le_of_ble_eq_true rfl) ?_
  refine lv_dup hx hb dX6_init_20 rfl ?_
  refine lv_aload_n hx hb dX6_init_21 rfl (lv_at hl 0 rfl) ?_
  refine rb_getr (q := 14) B hw (by decide) sh_13 fd_6_0 (by decide) rfl lf_X6_14 dX6_init_22 ?_
  refine lv_aload_n hx hb dX6_init_25 rfl (lv_at hl 2 rfl) ?_
  refine rb_ci (o := 19) (rest := [.ref (mAd bs 19), .ref (mAd bs 13)]) [.ref (mAd bs 14), .ref (mAd bs 8)] B hw (ci_19 l D cy bs qs qv qf _) km_X1_init kn_X1_init rfl lm_X6_22 dX6_init_26 hl.1 rfl rfl (Nat.le_of_ble_eq_true rfl) ⟨by decide, by decide⟩ ⟨Nat.le_of_ble_eq_true rfl, Nat.le_of_ble_eq_true rfl⟩ (fun H locs hw => ?_)
  refine W.widen (k := 6) (n := 4843) (Nat.le_of_ble_eq_true rfl) (Nat.le_of_ble_eq_true rfl) ?_
  refine rb_putF (q := 19) B hN hw (by decide) sh_13 fd_6_1 tyX6_ok nmX6 ⟨rfl, rfl⟩ (by decide) (mRt_o _) lf_X6_25 dX6_init_29 (fun H locs hw => ?_)
  refine lv_aload_n hx hb dX6_init_32 rfl (lv_at hl 0 rfl) ?_
  refine lv_aload_n hx hb dX6_init_33 rfl (lv_at hl 2 rfl) ?_
  refine rb_putR (q := 8) B hw (by decide) sh_13 fd_6_2 fp_6_2 (by decide) (mRt_o _) lf_X6_29 dX6_init_34 (fun H locs hw => ?_)
  exact rb_vret B hw dX6_init_37 rfl (Nat.le_of_ble_eq_true rfl) (Nat.le_of_ble_eq_true rfl) rfl
def i_23 (σ : mMem) : mMem := (mup (mupo (mup (mupo σ 24 mZr) 23 0 ((24 : Nat) : Int)) 25 mZr) 23 1 ((25 : Nat) : Int))
set_option maxRecDepth 100000 in
set_option maxHeartbeats 4000000 in
theorem ci_23 (l : Launch) (D : va_G) (cy : Nat → ClassId) (bs qs qv : Nat) (qf : Option Nat) (σ : mMem) : mBv l D cy bs qs qv qf yX2_init cX2_init 1 1 2 87 [.ref (mAd bs 23)] 24 σ 26 (i_23 σ) := by
  refine mBv.of (lv := [(0, .ref (mAd bs 23))]) km_X2_init.2.2.2.2.2 (Nat.le_of_ble_eq_true rfl) rfl (fun p e s m args below meth c H locs ls B hN hw hl => ?_)
  obtain ⟨hx, hb, -, -, -⟩ := B.1.1
  refine lv_aload_n hx hb dX2_init_0 rfl (lv_at hl 0 rfl) ?_
  refine rb_obj (rest := []) B hl.1 lm_X2_1 ⟨by decide, by decide⟩ (Nat.le_of_ble_eq_true rfl) dX2_init_1 ?_
  refine lv_aload_n hx hb dX2_init_4 rfl (lv_at hl 0 rfl) ?_
  refine lv_bipush (v := mI 7) hx hb dX2_init_5 (by decide) ?_
  refine rb_newi (n := 24) (len := 7) B hw sh_24 rfl (by decide) (Nat.le_of_ble_eq_true rfl) (Nat.le_of_ble_eq_true rfl) dX2_init_7 (fun H hw => ?_)
  refine W.widen (k := 1) (n := 7) (Nat.le_of_ble_eq_true rfl) (Nat.le_of_ble_eq_true rfl) ?_
  refine rb_putF (q := 24) B hN hw (by decide) sh_23 fd_2_0 tyX2_ok nmX2 ⟨rfl, rfl⟩ (by decide) (mRt_a _) lf_X2_7 dX2_init_9 (fun H locs hw => ?_)
  refine lv_aload_n hx hb dX2_init_12 rfl (lv_at hl 0 rfl) ?_
  refine lv_bipush (v := mI 80) hx hb dX2_init_13 (by decide) ?_
  refine rb_newi (n := 25) (len := 80) B hw sh_25 rfl (by decide) (Nat.le_of_ble_eq_true rfl) (Nat.le_of_ble_eq_true rfl) dX2_init_15 (fun H hw => ?_)
  refine W.widen (k := 2) (n := 87) (Nat.le_of_ble_eq_true rfl) (Nat.le_of_ble_eq_true rfl) ?_
  refine rb_putF (q := 25) B hN hw (by decide) sh_23 fd_2_1 tyX2_ok nmX2 ⟨rfl, rfl⟩ (by decide) (mRt_a _) lf_X2_13 dX2_init_17 (fun H locs hw => ?_)
  exact rb_vret B hw dX2_init_20 rfl (Nat.le_of_ble_eq_true rfl) (Nat.le_of_ble_eq_true rfl) rfl
def i_20 (σ : mMem) : mMem := (mup (mup (mup (mup (mup (mup (i_23 (mupo (mup (mupo (mup (mupo σ 21 mZr) 20 0 ((21 : Nat) : Int)) 22 mZr) 20 1 ((22 : Nat) : Int)) 23 (mNew 2))) 20 2 ((23 : Nat) : Int)) 20 3 ((3 : Nat) : Int)) 20 4 0) 20 5 0) 20 6 0) 20 7 0)
set_option maxRecDepth 100000 in
set_option maxHeartbeats 4000000 in
theorem ci_20 (l : Launch) (D : va_G) (cy : Nat → ClassId) (bs qs qv : Nat) (qf : Option Nat) (σ : mMem) : mBv l D cy bs qs qv qf yX10_init cX10_init 2 2 5 155 [.ref (mAd bs 20), .ref (mAd bs 3)] 21 σ 26 (i_20 σ) := by
  refine mBv.of (lv := [(0, .ref (mAd bs 20)), (1, .ref (mAd bs 3))]) km_X10_init.2.2.2.2.2 (Nat.le_of_ble_eq_true rfl) rfl (fun p e s m args below meth c H locs ls B hN hw hl => ?_)
  obtain ⟨hx, hb, -, -, -⟩ := B.1.1
  refine lv_aload_n hx hb dX10_init_0 rfl (lv_at hl 0 rfl) ?_
  refine rb_obj (rest := []) B hl.1 lm_X10_7 ⟨by decide, by decide⟩ (Nat.le_of_ble_eq_true rfl) dX10_init_1 ?_
  refine lv_aload_n hx hb dX10_init_4 rfl (lv_at hl 0 rfl) ?_
  refine lv_bipush (v := mI 60) hx hb dX10_init_5 (by decide) ?_
  refine rb_newi (n := 21) (len := 60) B hw sh_21 rfl (by decide) (Nat.le_of_ble_eq_true rfl) (Nat.le_of_ble_eq_true rfl) dX10_init_7 (fun H hw => ?_)
  refine W.widen (k := 1) (n := 60) (Nat.le_of_ble_eq_true rfl) (Nat.le_of_ble_eq_true rfl) ?_
  refine rb_putF (q := 21) B hN hw (by decide) sh_20 fd_10_0 tyX10_ok nmX10 ⟨rfl, rfl⟩ (by decide) (mRt_a _) lf_X10_13 dX10_init_9 (fun H locs hw => ?_)
  refine lv_aload_n hx hb dX10_init_12 rfl (lv_at hl 0 rfl) ?_
  refine lv_bipush (v := mI 6) hx hb dX10_init_13 (by decide) ?_
  refine rb_newz (n := 22) (len := 6) B hw sh_22 rfl (by decide) (Nat.le_of_ble_eq_true rfl) (Nat.le_of_ble_eq_true rfl) dX10_init_15 (fun H hw => ?_)
  refine W.widen (k := 2) (n := 66) (Nat.le_of_ble_eq_true rfl) (Nat.le_of_ble_eq_true rfl) ?_
  refine rb_putF (q := 22) B hN hw (by decide) sh_20 fd_10_1 tyX10_ok nmX10 ⟨rfl, rfl⟩ (by decide) (mRt_a _) lf_X10_17 dX10_init_17 (fun H locs hw => ?_)
  refine lv_aload_n hx hb dX10_init_20 rfl (lv_at hl 0 rfl) ?_
  refine rb_new (n := 23) B hw sh_23 (by decide) rfl in_X2 tyX2_ok (hd_X2 _ _) kl_X10_21 kj_X2 ii_X2 (Nat.le_of_ble_eq_true rfl) (Nat.le_of_ble_eq_true rfl) dX10_init_21 (fun H hw => ?_)
  refine W.widen (k := 3) (n := 68) (Nat.le_of_ble_eq_true rfl) (Nat.le_of_ble_eq_true rfl) ?_
  refine lv_dup hx hb dX10_init_24 rfl ?_
  refine rb_cn (o := 23) (rest := [.ref (mAd bs 23), .ref (mAd bs 20)]) [] B hw (ci_23 l D cy bs qs qv qf _) km_X2_init kn_X2_init rfl B.2.2.1 dX10_init_25 hl.1 rfl rfl (Nat.le_of_ble_eq_true rfl) ⟨by decide, by decide⟩ ⟨Nat.le_of_ble_eq_true rfl, Nat.le_of_ble_eq_true rfl⟩ (fun H locs hw => ?_)
  refine W.widen (k := 5) (n := 155) (Nat.le_of_ble_eq_true rfl) (Nat.le_of_ble_eq_true rfl) ?_
  refine rb_putF (q := 23) B hN hw (by decide) sh_20 fd_10_2 tyX10_ok nmX10 ⟨rfl, rfl⟩ (by decide) (mRt_o _) lf_X10_24 dX10_init_28 (fun H locs hw => ?_)
  refine lv_aload_n hx hb dX10_init_31 rfl (lv_at hl 0 rfl) ?_
  refine lv_aload_n hx hb dX10_init_32 rfl (lv_at hl 1 rfl) ?_
  refine rb_putR (q := 3) B hw (by decide) sh_20 fd_10_3 fp_10_3 (by decide) (mRt_o _) lf_X10_28 dX10_init_33 (fun H locs hw => ?_)
  refine lv_aload_n hx hb dX10_init_36 rfl (lv_at hl 0 rfl) ?_
  refine lv_iconst (v := mI 0) hx hb dX10_init_37 rfl ?_
  refine rb_puti 0 B hw (by decide) sh_20 fd_10_4 fp_10_4 rfl rfl lf_X10_32 dX10_init_38 (fun H locs hw => ?_)
  refine lv_aload_n hx hb dX10_init_41 rfl (lv_at hl 0 rfl) ?_
  refine lv_iconst (v := mI 0) hx hb dX10_init_42 rfl ?_
  refine rb_puti 0 B hw (by decide) sh_20 fd_10_5 fp_10_5 rfl rfl lf_X10_36 dX10_init_43 (fun H locs hw => ?_)
  refine lv_aload_n hx hb dX10_init_46 rfl (lv_at hl 0 rfl) ?_
  refine lv_iconst (v := mI 0) hx hb dX10_init_47 rfl ?_
  refine rb_puti 0 B hw (by decide) sh_20 fd_10_6 fp_10_6 rfl rfl lf_X10_39 dX10_init_48 (fun H locs hw => ?_)
  refine lv_aload_n hx hb dX10_init_51 rfl (lv_at hl 0 rfl) ?_
  refine lv_iconst (v := mI 0) hx hb dX10_init_52 rfl ?_
  refine rb_puti 0 B hw (by decide) sh_20 fd_10_7 fp_10_7 rfl rfl lf_X10_42 dX10_init_53 (fun H locs hw => ?_)
  exact rb_vret B hw dX10_init_56 rfl (Nat.le_of_ble_eq_true rfl) (Nat.le_of_ble_eq_true rfl) rfl
def i_32 (σ : mMem) : mMem := (mup (mupo (mup (mupo σ 33 mZr) 32 0 ((33 : Nat) : Int)) 34 mZr) 32 1 ((34 : Nat) : Int))
set_option maxRecDepth 100000 in
set_option maxHeartbeats 4000000 in
theorem ci_32 (l : Launch) (D : va_G) (cy : Nat → ClassId) (bs qs qv : Nat) (qf : Option Nat) (σ : mMem) : mBv l D cy bs qs qv qf yX2_init cX2_init 1 1 2 87 [.ref (mAd bs 32)] 33 σ 35 (i_32 σ) := by
  refine mBv.of (lv := [(0, .ref (mAd bs 32))]) km_X2_init.2.2.2.2.2 (Nat.le_of_ble_eq_true rfl) rfl (fun p e s m args below meth c H locs ls B hN hw hl => ?_)
  obtain ⟨hx, hb, -, -, -⟩ := B.1.1
  refine lv_aload_n hx hb dX2_init_0 rfl (lv_at hl 0 rfl) ?_
  refine rb_obj (rest := []) B hl.1 lm_X2_1 ⟨by decide, by decide⟩ (Nat.le_of_ble_eq_true rfl) dX2_init_1 ?_
  refine lv_aload_n hx hb dX2_init_4 rfl (lv_at hl 0 rfl) ?_
  refine lv_bipush (v := mI 7) hx hb dX2_init_5 (by decide) ?_
  refine rb_newi (n := 33) (len := 7) B hw sh_33 rfl (by decide) (Nat.le_of_ble_eq_true rfl) (Nat.le_of_ble_eq_true rfl) dX2_init_7 (fun H hw => ?_)
  refine W.widen (k := 1) (n := 7) (Nat.le_of_ble_eq_true rfl) (Nat.le_of_ble_eq_true rfl) ?_
  refine rb_putF (q := 33) B hN hw (by decide) sh_32 fd_2_0 tyX2_ok nmX2 ⟨rfl, rfl⟩ (by decide) (mRt_a _) lf_X2_7 dX2_init_9 (fun H locs hw => ?_)
  refine lv_aload_n hx hb dX2_init_12 rfl (lv_at hl 0 rfl) ?_
  refine lv_bipush (v := mI 80) hx hb dX2_init_13 (by decide) ?_
  refine rb_newi (n := 34) (len := 80) B hw sh_34 rfl (by decide) (Nat.le_of_ble_eq_true rfl) (Nat.le_of_ble_eq_true rfl) dX2_init_15 (fun H hw => ?_)
  refine W.widen (k := 2) (n := 87) (Nat.le_of_ble_eq_true rfl) (Nat.le_of_ble_eq_true rfl) ?_
  refine rb_putF (q := 34) B hN hw (by decide) sh_32 fd_2_1 tyX2_ok nmX2 ⟨rfl, rfl⟩ (by decide) (mRt_a _) lf_X2_13 dX2_init_17 (fun H locs hw => ?_)
  exact rb_vret B hw dX2_init_20 rfl (Nat.le_of_ble_eq_true rfl) (Nat.le_of_ble_eq_true rfl) rfl
def i_29 (σ : mMem) : mMem := (mup (mup (mup (mup (mup (mup (i_32 (mupo (mup (mupo (mup (mupo σ 30 mZr) 29 0 ((30 : Nat) : Int)) 31 mZr) 29 1 ((31 : Nat) : Int)) 32 (mNew 2))) 29 2 ((32 : Nat) : Int)) 29 3 ((3 : Nat) : Int)) 29 4 0) 29 5 0) 29 6 0) 29 7 0)
set_option maxRecDepth 100000 in
set_option maxHeartbeats 4000000 in
theorem ci_29 (l : Launch) (D : va_G) (cy : Nat → ClassId) (bs qs qv : Nat) (qf : Option Nat) (σ : mMem) : mBv l D cy bs qs qv qf yX10_init cX10_init 2 2 5 155 [.ref (mAd bs 29), .ref (mAd bs 3)] 30 σ 35 (i_29 σ) := by
  refine mBv.of (lv := [(0, .ref (mAd bs 29)), (1, .ref (mAd bs 3))]) km_X10_init.2.2.2.2.2 (Nat.le_of_ble_eq_true rfl) rfl (fun p e s m args below meth c H locs ls B hN hw hl => ?_)
  obtain ⟨hx, hb, -, -, -⟩ := B.1.1
  refine lv_aload_n hx hb dX10_init_0 rfl (lv_at hl 0 rfl) ?_
  refine rb_obj (rest := []) B hl.1 lm_X10_7 ⟨by decide, by decide⟩ (Nat.le_of_ble_eq_true rfl) dX10_init_1 ?_
  refine lv_aload_n hx hb dX10_init_4 rfl (lv_at hl 0 rfl) ?_
  refine lv_bipush (v := mI 60) hx hb dX10_init_5 (by decide) ?_
  refine rb_newi (n := 30) (len := 60) B hw sh_30 rfl (by decide) (Nat.le_of_ble_eq_true rfl) (Nat.le_of_ble_eq_true rfl) dX10_init_7 (fun H hw => ?_)
  refine W.widen (k := 1) (n := 60) (Nat.le_of_ble_eq_true rfl) (Nat.le_of_ble_eq_true rfl) ?_
  refine rb_putF (q := 30) B hN hw (by decide) sh_29 fd_10_0 tyX10_ok nmX10 ⟨rfl, rfl⟩ (by decide) (mRt_a _) lf_X10_13 dX10_init_9 (fun H locs hw => ?_)
  refine lv_aload_n hx hb dX10_init_12 rfl (lv_at hl 0 rfl) ?_
  refine lv_bipush (v := mI 6) hx hb dX10_init_13 (by decide) ?_
  refine rb_newz (n := 31) (len := 6) B hw sh_31 rfl (by decide) (Nat.le_of_ble_eq_true rfl) (Nat.le_of_ble_eq_true rfl) dX10_init_15 (fun H hw => ?_)
  refine W.widen (k := 2) (n := 66) (Nat.le_of_ble_eq_true rfl) (Nat.le_of_ble_eq_true rfl) ?_
  refine rb_putF (q := 31) B hN hw (by decide) sh_29 fd_10_1 tyX10_ok nmX10 ⟨rfl, rfl⟩ (by decide) (mRt_a _) lf_X10_17 dX10_init_17 (fun H locs hw => ?_)
  refine lv_aload_n hx hb dX10_init_20 rfl (lv_at hl 0 rfl) ?_
  refine rb_new (n := 32) B hw sh_32 (by decide) rfl in_X2 tyX2_ok (hd_X2 _ _) kl_X10_21 kj_X2 ii_X2 (Nat.le_of_ble_eq_true rfl) (Nat.le_of_ble_eq_true rfl) dX10_init_21 (fun H hw => ?_)
  refine W.widen (k := 3) (n := 68) (Nat.le_of_ble_eq_true rfl) (Nat.le_of_ble_eq_true rfl) ?_
  refine lv_dup hx hb dX10_init_24 rfl ?_
  refine rb_cn (o := 32) (rest := [.ref (mAd bs 32), .ref (mAd bs 29)]) [] B hw (ci_32 l D cy bs qs qv qf _) km_X2_init kn_X2_init rfl B.2.2.1 dX10_init_25 hl.1 rfl rfl (Nat.le_of_ble_eq_true rfl) ⟨by decide, by decide⟩ ⟨Nat.le_of_ble_eq_true rfl, Nat.le_of_ble_eq_true rfl⟩ (fun H locs hw => ?_)
  refine W.widen (k := 5) (n := 155) (Nat.le_of_ble_eq_true rfl) (Nat.le_of_ble_eq_true rfl) ?_
  refine rb_putF (q := 32) B hN hw (by decide) sh_29 fd_10_2 tyX10_ok nmX10 ⟨rfl, rfl⟩ (by decide) (mRt_o _) lf_X10_24 dX10_init_28 (fun H locs hw => ?_)
  refine lv_aload_n hx hb dX10_init_31 rfl (lv_at hl 0 rfl) ?_
  refine lv_aload_n hx hb dX10_init_32 rfl (lv_at hl 1 rfl) ?_
  refine rb_putR (q := 3) B hw (by decide) sh_29 fd_10_3 fp_10_3 (by decide) (mRt_o _) lf_X10_28 dX10_init_33 (fun H locs hw => ?_)
  refine lv_aload_n hx hb dX10_init_36 rfl (lv_at hl 0 rfl) ?_
  refine lv_iconst (v := mI 0) hx hb dX10_init_37 rfl ?_
  refine rb_puti 0 B hw (by decide) sh_29 fd_10_4 fp_10_4 rfl rfl lf_X10_32 dX10_init_38 (fun H locs hw => ?_)
  refine lv_aload_n hx hb dX10_init_41 rfl (lv_at hl 0 rfl) ?_
  refine lv_iconst (v := mI 0) hx hb dX10_init_42 rfl ?_
  refine rb_puti 0 B hw (by decide) sh_29 fd_10_5 fp_10_5 rfl rfl lf_X10_36 dX10_init_43 (fun H locs hw => ?_)
  refine lv_aload_n hx hb dX10_init_46 rfl (lv_at hl 0 rfl) ?_
  refine lv_iconst (v := mI 0) hx hb dX10_init_47 rfl ?_
  refine rb_puti 0 B hw (by decide) sh_29 fd_10_6 fp_10_6 rfl rfl lf_X10_39 dX10_init_48 (fun H locs hw => ?_)
  refine lv_aload_n hx hb dX10_init_51 rfl (lv_at hl 0 rfl) ?_
  refine lv_iconst (v := mI 0) hx hb dX10_init_52 rfl ?_
  refine rb_puti 0 B hw (by decide) sh_29 fd_10_7 fp_10_7 rfl rfl lf_X10_42 dX10_init_53 (fun H locs hw => ?_)
  exact rb_vret B hw dX10_init_56 rfl (Nat.le_of_ble_eq_true rfl) (Nat.le_of_ble_eq_true rfl) rfl
def i_51 (σ : mMem) : mMem := (mup (mupo (mup (mupo σ 52 mZr) 51 0 ((52 : Nat) : Int)) 53 mZr) 51 1 ((53 : Nat) : Int))
set_option maxRecDepth 100000 in
set_option maxHeartbeats 4000000 in
theorem ci_51 (l : Launch) (D : va_G) (cy : Nat → ClassId) (bs qs qv : Nat) (qf : Option Nat) (σ : mMem) : mBv l D cy bs qs qv qf yX2_init cX2_init 1 1 2 87 [.ref (mAd bs 51)] 52 σ 54 (i_51 σ) := by
  refine mBv.of (lv := [(0, .ref (mAd bs 51))]) km_X2_init.2.2.2.2.2 (Nat.le_of_ble_eq_true rfl) rfl (fun p e s m args below meth c H locs ls B hN hw hl => ?_)
  obtain ⟨hx, hb, -, -, -⟩ := B.1.1
  refine lv_aload_n hx hb dX2_init_0 rfl (lv_at hl 0 rfl) ?_
  refine rb_obj (rest := []) B hl.1 lm_X2_1 ⟨by decide, by decide⟩ (Nat.le_of_ble_eq_true rfl) dX2_init_1 ?_
  refine lv_aload_n hx hb dX2_init_4 rfl (lv_at hl 0 rfl) ?_
  refine lv_bipush (v := mI 7) hx hb dX2_init_5 (by decide) ?_
  refine rb_newi (n := 52) (len := 7) B hw sh_52 rfl (by decide) (Nat.le_of_ble_eq_true rfl) (Nat.le_of_ble_eq_true rfl) dX2_init_7 (fun H hw => ?_)
  refine W.widen (k := 1) (n := 7) (Nat.le_of_ble_eq_true rfl) (Nat.le_of_ble_eq_true rfl) ?_
  refine rb_putF (q := 52) B hN hw (by decide) sh_51 fd_2_0 tyX2_ok nmX2 ⟨rfl, rfl⟩ (by decide) (mRt_a _) lf_X2_7 dX2_init_9 (fun H locs hw => ?_)
  refine lv_aload_n hx hb dX2_init_12 rfl (lv_at hl 0 rfl) ?_
  refine lv_bipush (v := mI 80) hx hb dX2_init_13 (by decide) ?_
  refine rb_newi (n := 53) (len := 80) B hw sh_53 rfl (by decide) (Nat.le_of_ble_eq_true rfl) (Nat.le_of_ble_eq_true rfl) dX2_init_15 (fun H hw => ?_)
  refine W.widen (k := 2) (n := 87) (Nat.le_of_ble_eq_true rfl) (Nat.le_of_ble_eq_true rfl) ?_
  refine rb_putF (q := 53) B hN hw (by decide) sh_51 fd_2_1 tyX2_ok nmX2 ⟨rfl, rfl⟩ (by decide) (mRt_a _) lf_X2_13 dX2_init_17 (fun H locs hw => ?_)
  exact rb_vret B hw dX2_init_20 rfl (Nat.le_of_ble_eq_true rfl) (Nat.le_of_ble_eq_true rfl) rfl
def i_48 (σ : mMem) : mMem := (mup (mup (mup (mup (mup (mup (i_51 (mupo (mup (mupo (mup (mupo σ 49 mZr) 48 0 ((49 : Nat) : Int)) 50 mZr) 48 1 ((50 : Nat) : Int)) 51 (mNew 2))) 48 2 ((51 : Nat) : Int)) 48 3 ((3 : Nat) : Int)) 48 4 0) 48 5 0) 48 6 0) 48 7 0)
set_option maxRecDepth 100000 in
set_option maxHeartbeats 4000000 in
theorem ci_48 (l : Launch) (D : va_G) (cy : Nat → ClassId) (bs qs qv : Nat) (qf : Option Nat) (σ : mMem) : mBv l D cy bs qs qv qf yX10_init cX10_init 2 2 5 155 [.ref (mAd bs 48), .ref (mAd bs 3)] 49 σ 54 (i_48 σ) := by
  refine mBv.of (lv := [(0, .ref (mAd bs 48)), (1, .ref (mAd bs 3))]) km_X10_init.2.2.2.2.2 (Nat.le_of_ble_eq_true rfl) rfl (fun p e s m args below meth c H locs ls B hN hw hl => ?_)
  obtain ⟨hx, hb, -, -, -⟩ := B.1.1
  refine lv_aload_n hx hb dX10_init_0 rfl (lv_at hl 0 rfl) ?_
  refine rb_obj (rest := []) B hl.1 lm_X10_7 ⟨by decide, by decide⟩ (Nat.le_of_ble_eq_true rfl) dX10_init_1 ?_
  refine lv_aload_n hx hb dX10_init_4 rfl (lv_at hl 0 rfl) ?_
  refine lv_bipush (v := mI 60) hx hb dX10_init_5 (by decide) ?_
  refine rb_newi (n := 49) (len := 60) B hw sh_49 rfl (by decide) (Nat.le_of_ble_eq_true rfl) (Nat.le_of_ble_eq_true rfl) dX10_init_7 (fun H hw => ?_)
  refine W.widen (k := 1) (n := 60) (Nat.le_of_ble_eq_true rfl) (Nat.le_of_ble_eq_true rfl) ?_
  refine rb_putF (q := 49) B hN hw (by decide) sh_48 fd_10_0 tyX10_ok nmX10 ⟨rfl, rfl⟩ (by decide) (mRt_a _) lf_X10_13 dX10_init_9 (fun H locs hw => ?_)
  refine lv_aload_n hx hb dX10_init_12 rfl (lv_at hl 0 rfl) ?_
  refine lv_bipush (v := mI 6) hx hb dX10_init_13 (by decide) ?_
  refine rb_newz (n := 50) (len := 6) B hw sh_50 rfl (by decide) (Nat.le_of_ble_eq_true rfl) (Nat.le_of_ble_eq_true rfl) dX10_init_15 (fun H hw => ?_)
  refine W.widen (k := 2) (n := 66) (Nat.le_of_ble_eq_true rfl) (Nat.le_of_ble_eq_true rfl) ?_
  refine rb_putF (q := 50) B hN hw (by decide) sh_48 fd_10_1 tyX10_ok nmX10 ⟨rfl, rfl⟩ (by decide) (mRt_a _) lf_X10_17 dX10_init_17 (fun H locs hw => ?_)
  refine lv_aload_n hx hb dX10_init_20 rfl (lv_at hl 0 rfl) ?_
  refine rb_new (n := 51) B hw sh_51 (by decide) rfl in_X2 tyX2_ok (hd_X2 _ _) kl_X10_21 kj_X2 ii_X2 (Nat.le_of_ble_eq_true rfl) (Nat.le_of_ble_eq_true rfl) dX10_init_21 (fun H hw => ?_)
  refine W.widen (k := 3) (n := 68) (Nat.le_of_ble_eq_true rfl) (Nat.le_of_ble_eq_true rfl) ?_
  refine lv_dup hx hb dX10_init_24 rfl ?_
  refine rb_cn (o := 51) (rest := [.ref (mAd bs 51), .ref (mAd bs 48)]) [] B hw (ci_51 l D cy bs qs qv qf _) km_X2_init kn_X2_init rfl B.2.2.1 dX10_init_25 hl.1 rfl rfl (Nat.le_of_ble_eq_true rfl) ⟨by decide, by decide⟩ ⟨Nat.le_of_ble_eq_true rfl, Nat.le_of_ble_eq_true rfl⟩ (fun H locs hw => ?_)
  refine W.widen (k := 5) (n := 155) (Nat.le_of_ble_eq_true rfl) (Nat.le_of_ble_eq_true rfl) ?_
  refine rb_putF (q := 51) B hN hw (by decide) sh_48 fd_10_2 tyX10_ok nmX10 ⟨rfl, rfl⟩ (by decide) (mRt_o _) lf_X10_24 dX10_init_28 (fun H locs hw => ?_)
  refine lv_aload_n hx hb dX10_init_31 rfl (lv_at hl 0 rfl) ?_
  refine lv_aload_n hx hb dX10_init_32 rfl (lv_at hl 1 rfl) ?_
  refine rb_putR (q := 3) B hw (by decide) sh_48 fd_10_3 fp_10_3 (by decide) (mRt_o _) lf_X10_28 dX10_init_33 (fun H locs hw => ?_)
  refine lv_aload_n hx hb dX10_init_36 rfl (lv_at hl 0 rfl) ?_
  refine lv_iconst (v := mI 0) hx hb dX10_init_37 rfl ?_
  refine rb_puti 0 B hw (by decide) sh_48 fd_10_4 fp_10_4 rfl rfl lf_X10_32 dX10_init_38 (fun H locs hw => ?_)
  refine lv_aload_n hx hb dX10_init_41 rfl (lv_at hl 0 rfl) ?_
  refine lv_iconst (v := mI 0) hx hb dX10_init_42 rfl ?_
  refine rb_puti 0 B hw (by decide) sh_48 fd_10_5 fp_10_5 rfl rfl lf_X10_36 dX10_init_43 (fun H locs hw => ?_)
  refine lv_aload_n hx hb dX10_init_46 rfl (lv_at hl 0 rfl) ?_
  refine lv_iconst (v := mI 0) hx hb dX10_init_47 rfl ?_
  refine rb_puti 0 B hw (by decide) sh_48 fd_10_6 fp_10_6 rfl rfl lf_X10_39 dX10_init_48 (fun H locs hw => ?_)
  refine lv_aload_n hx hb dX10_init_51 rfl (lv_at hl 0 rfl) ?_
  refine lv_iconst (v := mI 0) hx hb dX10_init_52 rfl ?_
  refine rb_puti 0 B hw (by decide) sh_48 fd_10_7 fp_10_7 rfl rfl lf_X10_42 dX10_init_53 (fun H locs hw => ?_)
  exact rb_vret B hw dX10_init_56 rfl (Nat.le_of_ble_eq_true rfl) (Nat.le_of_ble_eq_true rfl) rfl
def i_82 (σ : mMem) : mMem := (mup (mupo (mup (mupo σ 83 mZr) 82 0 ((83 : Nat) : Int)) 84 mZr) 82 1 ((84 : Nat) : Int))
set_option maxRecDepth 100000 in
set_option maxHeartbeats 4000000 in
theorem ci_82 (l : Launch) (D : va_G) (cy : Nat → ClassId) (bs qs qv : Nat) (qf : Option Nat) (σ : mMem) : mBv l D cy bs qs qv qf yX2_init cX2_init 1 1 2 87 [.ref (mAd bs 82)] 83 σ 85 (i_82 σ) := by
  refine mBv.of (lv := [(0, .ref (mAd bs 82))]) km_X2_init.2.2.2.2.2 (Nat.le_of_ble_eq_true rfl) rfl (fun p e s m args below meth c H locs ls B hN hw hl => ?_)
  obtain ⟨hx, hb, -, -, -⟩ := B.1.1
  refine lv_aload_n hx hb dX2_init_0 rfl (lv_at hl 0 rfl) ?_
  refine rb_obj (rest := []) B hl.1 lm_X2_1 ⟨by decide, by decide⟩ (Nat.le_of_ble_eq_true rfl) dX2_init_1 ?_
  refine lv_aload_n hx hb dX2_init_4 rfl (lv_at hl 0 rfl) ?_
  refine lv_bipush (v := mI 7) hx hb dX2_init_5 (by decide) ?_
  refine rb_newi (n := 83) (len := 7) B hw sh_83 rfl (by decide) (Nat.le_of_ble_eq_true rfl) (Nat.le_of_ble_eq_true rfl) dX2_init_7 (fun H hw => ?_)
  refine W.widen (k := 1) (n := 7) (Nat.le_of_ble_eq_true rfl) (Nat.le_of_ble_eq_true rfl) ?_
  refine rb_putF (q := 83) B hN hw (by decide) sh_82 fd_2_0 tyX2_ok nmX2 ⟨rfl, rfl⟩ (by decide) (mRt_a _) lf_X2_7 dX2_init_9 (fun H locs hw => ?_)
  refine lv_aload_n hx hb dX2_init_12 rfl (lv_at hl 0 rfl) ?_
  refine lv_bipush (v := mI 80) hx hb dX2_init_13 (by decide) ?_
  refine rb_newi (n := 84) (len := 80) B hw sh_84 rfl (by decide) (Nat.le_of_ble_eq_true rfl) (Nat.le_of_ble_eq_true rfl) dX2_init_15 (fun H hw => ?_)
  refine W.widen (k := 2) (n := 87) (Nat.le_of_ble_eq_true rfl) (Nat.le_of_ble_eq_true rfl) ?_
  refine rb_putF (q := 84) B hN hw (by decide) sh_82 fd_2_1 tyX2_ok nmX2 ⟨rfl, rfl⟩ (by decide) (mRt_a _) lf_X2_13 dX2_init_17 (fun H locs hw => ?_)
  exact rb_vret B hw dX2_init_20 rfl (Nat.le_of_ble_eq_true rfl) (Nat.le_of_ble_eq_true rfl) rfl
def i_79 (σ : mMem) : mMem := (mup (mup (mup (mup (mup (mup (i_82 (mupo (mup (mupo (mup (mupo σ 80 mZr) 79 0 ((80 : Nat) : Int)) 81 mZr) 79 1 ((81 : Nat) : Int)) 82 (mNew 2))) 79 2 ((82 : Nat) : Int)) 79 3 ((3 : Nat) : Int)) 79 4 0) 79 5 0) 79 6 0) 79 7 0)
set_option maxRecDepth 100000 in
set_option maxHeartbeats 4000000 in
theorem ci_79 (l : Launch) (D : va_G) (cy : Nat → ClassId) (bs qs qv : Nat) (qf : Option Nat) (σ : mMem) : mBv l D cy bs qs qv qf yX10_init cX10_init 2 2 5 155 [.ref (mAd bs 79), .ref (mAd bs 3)] 80 σ 85 (i_79 σ) := by
  refine mBv.of (lv := [(0, .ref (mAd bs 79)), (1, .ref (mAd bs 3))]) km_X10_init.2.2.2.2.2 (Nat.le_of_ble_eq_true rfl) rfl (fun p e s m args below meth c H locs ls B hN hw hl => ?_)
  obtain ⟨hx, hb, -, -, -⟩ := B.1.1
  refine lv_aload_n hx hb dX10_init_0 rfl (lv_at hl 0 rfl) ?_
  refine rb_obj (rest := []) B hl.1 lm_X10_7 ⟨by decide, by decide⟩ (Nat.le_of_ble_eq_true rfl) dX10_init_1 ?_
  refine lv_aload_n hx hb dX10_init_4 rfl (lv_at hl 0 rfl) ?_
  refine lv_bipush (v := mI 60) hx hb dX10_init_5 (by decide) ?_
  refine rb_newi (n := 80) (len := 60) B hw sh_80 rfl (by decide) (Nat.le_of_ble_eq_true rfl) (Nat.le_of_ble_eq_true rfl) dX10_init_7 (fun H hw => ?_)
  refine W.widen (k := 1) (n := 60) (Nat.le_of_ble_eq_true rfl) (Nat.le_of_ble_eq_true rfl) ?_
  refine rb_putF (q := 80) B hN hw (by decide) sh_79 fd_10_0 tyX10_ok nmX10 ⟨rfl, rfl⟩ (by decide) (mRt_a _) lf_X10_13 dX10_init_9 (fun H locs hw => ?_)
  refine lv_aload_n hx hb dX10_init_12 rfl (lv_at hl 0 rfl) ?_
  refine lv_bipush (v := mI 6) hx hb dX10_init_13 (by decide) ?_
  refine rb_newz (n := 81) (len := 6) B hw sh_81 rfl (by decide) (Nat.le_of_ble_eq_true rfl) (Nat.le_of_ble_eq_true rfl) dX10_init_15 (fun H hw => ?_)
  refine W.widen (k := 2) (n := 66) (Nat.le_of_ble_eq_true rfl) (Nat.le_of_ble_eq_true rfl) ?_
  refine rb_putF (q := 81) B hN hw (by decide) sh_79 fd_10_1 tyX10_ok nmX10 ⟨rfl, rfl⟩ (by decide) (mRt_a _) lf_X10_17 dX10_init_17 (fun H locs hw => ?_)
  refine lv_aload_n hx hb dX10_init_20 rfl (lv_at hl 0 rfl) ?_
  refine rb_new (n := 82) B hw sh_82 (by decide) rfl in_X2 tyX2_ok (hd_X2 _ _) kl_X10_21 kj_X2 ii_X2 (Nat.le_of_ble_eq_true rfl) (Nat.le_of_ble_eq_true rfl) dX10_init_21 (fun H hw => ?_)
  refine W.widen (k := 3) (n := 68) (Nat.le_of_ble_eq_true rfl) (Nat.le_of_ble_eq_true rfl) ?_
  refine lv_dup hx hb dX10_init_24 rfl ?_
  refine rb_cn (o := 82) (rest := [.ref (mAd bs 82), .ref (mAd bs 79)]) [] B hw (ci_82 l D cy bs qs qv qf _) km_X2_init kn_X2_init rfl B.2.2.1 dX10_init_25 hl.1 rfl rfl (Nat.le_of_ble_eq_true rfl) ⟨by decide, by decide⟩ ⟨Nat.le_of_ble_eq_true rfl, Nat.le_of_ble_eq_true rfl⟩ (fun H locs hw => ?_)
  refine W.widen (k := 5) (n := 155) (Nat.le_of_ble_eq_true rfl) (Nat.le_of_ble_eq_true rfl) ?_
  refine rb_putF (q := 82) B hN hw (by decide) sh_79 fd_10_2 tyX10_ok nmX10 ⟨rfl, rfl⟩ (by decide) (mRt_o _) lf_X10_24 dX10_init_28 (fun H locs hw => ?_)
  refine lv_aload_n hx hb dX10_init_31 rfl (lv_at hl 0 rfl) ?_
  refine lv_aload_n hx hb dX10_init_32 rfl (lv_at hl 1 rfl) ?_
  refine rb_putR (q := 3) B hw (by decide) sh_79 fd_10_3 fp_10_3 (by decide) (mRt_o _) lf_X10_28 dX10_init_33 (fun H locs hw => ?_)
  refine lv_aload_n hx hb dX10_init_36 rfl (lv_at hl 0 rfl) ?_
  refine lv_iconst (v := mI 0) hx hb dX10_init_37 rfl ?_
  refine rb_puti 0 B hw (by decide) sh_79 fd_10_4 fp_10_4 rfl rfl lf_X10_32 dX10_init_38 (fun H locs hw => ?_)
  refine lv_aload_n hx hb dX10_init_41 rfl (lv_at hl 0 rfl) ?_
  refine lv_iconst (v := mI 0) hx hb dX10_init_42 rfl ?_
  refine rb_puti 0 B hw (by decide) sh_79 fd_10_5 fp_10_5 rfl rfl lf_X10_36 dX10_init_43 (fun H locs hw => ?_)
  refine lv_aload_n hx hb dX10_init_46 rfl (lv_at hl 0 rfl) ?_
  refine lv_iconst (v := mI 0) hx hb dX10_init_47 rfl ?_
  refine rb_puti 0 B hw (by decide) sh_79 fd_10_6 fp_10_6 rfl rfl lf_X10_39 dX10_init_48 (fun H locs hw => ?_)
  refine lv_aload_n hx hb dX10_init_51 rfl (lv_at hl 0 rfl) ?_
  refine lv_iconst (v := mI 0) hx hb dX10_init_52 rfl ?_
  refine rb_puti 0 B hw (by decide) sh_79 fd_10_7 fp_10_7 rfl rfl lf_X10_42 dX10_init_53 (fun H locs hw => ?_)
  exact rb_vret B hw dX10_init_56 rfl (Nat.le_of_ble_eq_true rfl) (Nat.le_of_ble_eq_true rfl) rfl
def i_26 (σ : mMem) : mMem := (mup (mup (i_29 (mupo (mup (mupo (mup (mupo σ 27 mZr) 26 1 ((27 : Nat) : Int)) 28 mZr) 26 2 ((28 : Nat) : Int)) 29 (mNew 10))) 26 0 ((29 : Nat) : Int)) 26 3 0)
set_option maxRecDepth 100000 in
set_option maxHeartbeats 4000000 in
theorem ci_26 (l : Launch) (D : va_G) (cy : Nat → ClassId) (bs qs qv : Nat) (qf : Option Nat) (σ : mMem) : mBv l D cy bs qs qv qf yX0_init cX0_init 2 3 8 811 [.ref (mAd bs 26), .ref (mAd bs 3)] 27 σ 35 (i_26 σ) := by
  refine mBv.of (lv := [(0, .ref (mAd bs 26)), (1, .ref (mAd bs 3))]) km_X0_init.2.2.2.2.2 (Nat.le_of_ble_eq_true rfl) rfl (fun p e s m args below meth c H locs ls B hN hw hl => ?_)
  obtain ⟨hx, hb, -, -, -⟩ := B.1.1
  refine lv_aload_n hx hb dX0_init_0 rfl (lv_at hl 0 rfl) ?_
  refine rb_obj (rest := []) B hl.1 lm_X0_5 ⟨by decide, by decide⟩ (Nat.le_of_ble_eq_true rfl) dX0_init_1 ?_
  refine lv_aload_n hx hb dX0_init_4 rfl (lv_at hl 0 rfl) ?_
  refine lv_sipush (v := mI 324) hx hb dX0_init_5 (by decide) ?_
  refine rb_newi (n := 27) (len := 324) B hw sh_27 rfl (by decide) (Nat.le_of_ble_eq_true rfl) (Nat.le_of_ble_eq_true rfl) dX0_init_8 (fun H hw => ?_)
  refine W.widen (k := 1) (n := 324) (Nat.le_of_ble_eq_true rfl) (Nat.le_of_ble_eq_true rfl) ?_
  refine rb_putF (q := 27) B hN hw (by decide) sh_26 fd_0_1 tyX0_ok nmX0 ⟨rfl, rfl⟩ (by decide) (mRt_a _) lf_X0_13 dX0_init_10 (fun H locs hw => ?_)
  refine lv_aload_n hx hb dX0_init_13 rfl (lv_at hl 0 rfl) ?_
  refine lv_sipush (v := mI 324) hx hb dX0_init_14 (by decide) ?_
  refine rb_newi (n := 28) (len := 324) B hw sh_28 rfl (by decide) (Nat.le_of_ble_eq_true rfl) (Nat.le_of_ble_eq_true rfl) dX0_init_17 (fun H hw => ?_)
  refine W.widen (k := 2) (n := 648) (Nat.le_of_ble_eq_true rfl) (Nat.le_of_ble_eq_true rfl) ?_
  refine rb_putF (q := 28) B hN hw (by decide) sh_26 fd_0_2 tyX0_ok nmX0 ⟨rfl, rfl⟩ (by decide) (mRt_a _) lf_X0_17 dX0_init_19 (fun H locs hw => ?_)
  refine lv_aload_n hx hb dX0_init_22 rfl (lv_at hl 0 rfl) ?_
  refine rb_new (n := 29) B hw sh_29 (by decide) rfl in_X10 tyX10_ok (hd_X10 _ _) kl_X0_20 kj_X10 ii_X10 (Nat.le_of_ble_eq_true rfl) (Nat.le_of_ble_eq_true rfl) dX0_init_23 (fun H hw => ?_)
  refine W.widen (k := 3) (n := 656) (Nat.le_of_ble_eq_true rfl) (Nat.le_of_ble_eq_true rfl) ?_
  refine lv_dup hx hb dX0_init_26 rfl ?_
  refine lv_aload_n hx hb dX0_init_27 rfl (lv_at hl 1 rfl) ?_
  refine rb_ci (o := 29) (rest := [.ref (mAd bs 29), .ref (mAd bs 26)]) [.ref (mAd bs 3)] B hw (ci_29 l D cy bs qs qv qf _) km_X10_init kn_X10_init rfl lm_X0_22 dX0_init_28 hl.1 rfl rfl (Nat.le_of_ble_eq_true rfl) ⟨by decide, by decide⟩ ⟨Nat.le_of_ble_eq_true rfl, Nat.le_of_ble_eq_true rfl⟩ (fun H locs hw => ?_)
  refine W.widen (k := 8) (n := 811) (Nat.le_of_ble_eq_true rfl) (Nat.le_of_ble_eq_true rfl) ?_
  refine rb_putF (q := 29) B hN hw (by decide) sh_26 fd_0_0 tyX0_ok nmX0 ⟨rfl, rfl⟩ (by decide) (mRt_o _) lf_X0_25 dX0_init_31 (fun H locs hw => ?_)
  refine lv_aload_n hx hb dX0_init_34 rfl (lv_at hl 0 rfl) ?_
  refine lv_iconst (v := mI 0) hx hb dX0_init_35 rfl ?_
  refine rb_puti 0 B hw (by decide) sh_26 fd_0_3 fp_0_3 rfl rfl lf_X0_29 dX0_init_36 (fun H locs hw => ?_)
  exact rb_vret B hw dX0_init_39 rfl (Nat.le_of_ble_eq_true rfl) (Nat.le_of_ble_eq_true rfl) rfl
def i_35 (σ : mMem) : mMem := (mup (mup (i_48 (mupo (mup (mRows (mup (mupo σ 36 mZr) 35 1 ((36 : Nat) : Int)) 37 10) 35 2 ((37 : Nat) : Int)) 48 (mNew 10))) 35 0 ((48 : Nat) : Int)) 35 3 0)
set_option maxRecDepth 100000 in
set_option maxHeartbeats 4000000 in
theorem ci_35 (l : Launch) (D : va_G) (cy : Nat → ClassId) (bs qs qv : Nat) (qf : Option Nat) (σ : mMem) : mBv l D cy bs qs qv qf yX9_init cX9_init 2 3 18 631 [.ref (mAd bs 35), .ref (mAd bs 3)] 36 σ 54 (i_35 σ) := by
  refine mBv.of (lv := [(0, .ref (mAd bs 35)), (1, .ref (mAd bs 3))]) km_X9_init.2.2.2.2.2 (Nat.le_of_ble_eq_true rfl) rfl (fun p e s m args below meth c H locs ls B hN hw hl => ?_)
  obtain ⟨hx, hb, -, -, -⟩ := B.1.1
  refine lv_aload_n hx hb dX9_init_0 rfl (lv_at hl 0 rfl) ?_
  refine rb_obj (rest := []) B hl.1 lm_X9_5 ⟨by decide, by decide⟩ (Nat.le_of_ble_eq_true rfl) dX9_init_1 ?_
  refine lv_aload_n hx hb dX9_init_4 rfl (lv_at hl 0 rfl) ?_
  refine lv_bipush (v := mI 48) hx hb dX9_init_5 (by decide) ?_
  refine rb_newi (n := 36) (len := 48) B hw sh_36 rfl (by decide) (Nat.le_of_ble_eq_true rfl) (Nat.le_of_ble_eq_true rfl) dX9_init_7 (fun H hw => ?_)
  refine W.widen (k := 1) (n := 48) (Nat.le_of_ble_eq_true rfl) (Nat.le_of_ble_eq_true rfl) ?_
  refine rb_putF (q := 36) B hN hw (by decide) sh_35 fd_9_1 tyX9_ok nmX9 ⟨rfl, rfl⟩ (by decide) (mRt_a _) lf_X9_13 dX9_init_9 (fun H locs hw => ?_)
  refine lv_aload_n hx hb dX9_init_12 rfl (lv_at hl 0 rfl) ?_
  refine lv_bipush (v := mI 10) hx hb dX9_init_13 (by decide) ?_
  refine lv_bipush (v := mI 41) hx hb dX9_init_15 (by decide) ?_
  refine rb_mnew (n := 37) (N := 10) (K := 41) B hw sh_37 sh_r37 rfl rfl (by decide) kl_X9_17 (Nat.le_of_ble_eq_true rfl) (Nat.le_of_ble_eq_true rfl) dX9_init_17 (fun H locs hw => ?_)
  refine W.widen (k := 12) (n := 468) (Nat.le_of_ble_eq_true rfl) (Nat.le_of_ble_eq_true rfl) ?_
  refine rb_putF (q := 37) B hN hw (by decide) sh_35 fd_9_2 tyX9_ok nmX9 ⟨rfl, rfl⟩ (by decide) (mRt_a _) lf_X9_19 dX9_init_21 (fun H locs hw => ?_)
  refine lv_aload_n hx hb dX9_init_24 rfl (lv_at hl 0 rfl) ?_
  refine rb_new (n := 48) B hw sh_48 (by decide) rfl in_X10 tyX10_ok (hd_X10 _ _) kl_X9_1 kj_X10 ii_X10 (Nat.le_of_ble_eq_true rfl) (Nat.le_of_ble_eq_true rfl) dX9_init_25 (fun H hw => ?_)
  refine W.widen (k := 13) (n := 476) (Nat.le_of_ble_eq_true rfl) (Nat.le_of_ble_eq_true rfl) ?_
  refine lv_dup hx hb dX9_init_28 rfl ?_
  refine lv_aload_n hx hb dX9_init_29 rfl (lv_at hl 1 rfl) ?_
  refine rb_ci (o := 48) (rest := [.ref (mAd bs 48), .ref (mAd bs 35)]) [.ref (mAd bs 3)] B hw (ci_48 l D cy bs qs qv qf _) km_X10_init kn_X10_init rfl lm_X9_22 dX9_init_30 hl.1 rfl rfl (Nat.le_of_ble_eq_true rfl) ⟨by decide, by decide⟩ ⟨Nat.le_of_ble_eq_true rfl, Nat.le_of_ble_eq_true rfl⟩ (fun H locs hw => ?_)
  refine W.widen (k := 18) (n := 631) (Nat.le_of_ble_eq_true rfl) (Nat.le_of_ble_eq_true rfl) ?_
  refine rb_putF (q := 48) B hN hw (by decide) sh_35 fd_9_0 tyX9_ok nmX9 ⟨rfl, rfl⟩ (by decide) (mRt_o _) lf_X9_25 dX9_init_33 (fun H locs hw => ?_)
  refine lv_aload_n hx hb dX9_init_36 rfl (lv_at hl 0 rfl) ?_
  refine lv_iconst (v := mI 0) hx hb dX9_init_37 rfl ?_
  refine rb_puti 0 B hw (by decide) sh_35 fd_9_3 fp_9_3 rfl rfl lf_X9_29 dX9_init_38 (fun H locs hw => ?_)
  exact rb_vret B hw dX9_init_41 rfl (Nat.le_of_ble_eq_true rfl) (Nat.le_of_ble_eq_true rfl) rfl
def i_54 (σ : mMem) : mMem := (mFgt (mup (mupo (mup (mRows σ 55 20) 54 0 ((55 : Nat) : Int)) 76 mZr) 54 1 ((76 : Nat) : Int)))
set_option maxRecDepth 100000 in
set_option maxHeartbeats 4000000 in
theorem ci_54 (l : Launch) (D : va_G) (cy : Nat → ClassId) (bs qs qv : Nat) (qf : Option Nat) (σ : mMem) : mBv l D cy bs qs qv qf yX3_init cX3_init 1 2 22 2540 [.ref (mAd bs 54)] 55 σ 77 (i_54 σ) := by
  refine mBv.of (lv := [(0, .ref (mAd bs 54))]) km_X3_init.2.2.2.2.2 (Nat.le_of_ble_eq_true rfl) rfl (fun p e s m args below meth c H locs ls B hN hw hl => ?_)
  obtain ⟨hx, hb, -, -, -⟩ := B.1.1
  refine lv_aload_n hx hb dX3_init_0 rfl (lv_at hl 0 rfl) ?_
  refine rb_obj (rest := []) B hl.1 lm_X3_5 ⟨by decide, by decide⟩ (Nat.le_of_ble_eq_true rfl) dX3_init_1 ?_
  refine lv_aload_n hx hb dX3_init_4 rfl (lv_at hl 0 rfl) ?_
  refine lv_bipush (v := mI 20) hx hb dX3_init_5 (by decide) ?_
  refine lv_bipush (v := mI 123) hx hb dX3_init_7 (by decide) ?_
  refine rb_mnew (n := 55) (N := 20) (K := 123) B hw sh_55 sh_r55 rfl rfl (by decide) kl_X3_13 (Nat.le_of_ble_eq_true rfl) (Nat.le_of_ble_eq_true rfl) dX3_init_9 (fun H locs hw => ?_)
  refine W.widen (k := 21) (n := 2480) (Nat.le_of_ble_eq_true rfl) (Nat.le_of_ble_eq_true rfl) ?_
  refine rb_putF (q := 55) B hN hw (by decide) sh_54 fd_3_0 tyX3_ok nmX3 ⟨rfl, rfl⟩ (by decide) (mRt_a _) lf_X3_15 dX3_init_13 (fun H locs hw => ?_)
  refine lv_aload_n hx hb dX3_init_16 rfl (lv_at hl 0 rfl) ?_
  refine lv_bipush (v := mI 60) hx hb dX3_init_17 (by decide) ?_
  refine rb_newi (n := 76) (len := 60) B hw sh_76 rfl (by decide) (Nat.le_of_ble_eq_true rfl) (Nat.le_of_ble_eq_true rfl) dX3_init_19 (fun H hw => ?_)
  refine W.widen (k := 22) (n := 2540) (Nat.le_of_ble_eq_true rfl) (Nat.le_of_ble_eq_true rfl) ?_
  refine rb_putF (q := 76) B hN hw (by decide) sh_54 fd_3_1 tyX3_ok nmX3 ⟨rfl, rfl⟩ (by decide) (mRt_a _) lf_X3_18 dX3_init_21 (fun H locs hw => ?_)
  refine lv_aload_n hx hb dX3_init_24 rfl (lv_at hl 0 rfl) ?_
  refine rb_cv (o := 54) (rest := []) [] B hw (cb_forget l D cy bs qs qv qf _) (by decide) sh_54 rfl (by decide) rfl km_X3_forget kv_X3_forget lm_X3_22 dX3_init_25 hl.1 rfl rfl (Nat.le_of_ble_eq_true rfl) ⟨by decide, by decide⟩ ⟨Nat.le_of_ble_eq_true rfl, Nat.le_of_ble_eq_true rfl⟩ (fun H locs hw => ?_)
  exact rb_vret B hw dX3_init_28 rfl (Nat.le_of_ble_eq_true rfl) (Nat.le_of_ble_eq_true rfl) rfl
def i_77 (σ : mMem) : mMem := (mup (i_79 (mupo (mup (mup (mupo σ 78 mZr) 77 0 ((78 : Nat) : Int)) 77 1 0) 79 (mNew 10))) 77 2 ((79 : Nat) : Int))
set_option maxRecDepth 100000 in
set_option maxHeartbeats 4000000 in
theorem ci_77 (l : Launch) (D : va_G) (cy : Nat → ClassId) (bs qs qv : Nat) (qf : Option Nat) (σ : mMem) : mBv l D cy bs qs qv qf yX4_init cX4_init 2 3 7 215 [.ref (mAd bs 77), .ref (mAd bs 3)] 78 σ 85 (i_77 σ) := by
  refine mBv.of (lv := [(0, .ref (mAd bs 77)), (1, .ref (mAd bs 3))]) km_X4_init.2.2.2.2.2 (Nat.le_of_ble_eq_true rfl) rfl (fun p e s m args below meth c H locs ls B hN hw hl => ?_)
  obtain ⟨hx, hb, -, -, -⟩ := B.1.1
  refine lv_aload_n hx hb dX4_init_0 rfl (lv_at hl 0 rfl) ?_
  refine rb_obj (rest := []) B hl.1 lm_X4_3 ⟨by decide, by decide⟩ (Nat.le_of_ble_eq_true rfl) dX4_init_1 ?_
  refine lv_aload_n hx hb dX4_init_4 rfl (lv_at hl 0 rfl) ?_
  refine lv_bipush (v := mI 52) hx hb dX4_init_5 (by decide) ?_
  refine rb_newi (n := 78) (len := 52) B hw sh_78 rfl (by decide) (Nat.le_of_ble_eq_true rfl) (Nat.le_of_ble_eq_true rfl) dX4_init_7 (fun H hw => ?_)
  refine W.widen (k := 1) (n := 52) (Nat.le_of_ble_eq_true rfl) (Nat.le_of_ble_eq_true rfl) ?_
  refine rb_putF (q := 78) B hN hw (by decide) sh_77 fd_4_0 tyX4_ok nmX4 ⟨rfl, rfl⟩ (by decide) (mRt_a _) lf_X4_13 dX4_init_9 (fun H locs hw => ?_)
  refine lv_aload_n hx hb dX4_init_12 rfl (lv_at hl 0 rfl) ?_
  refine lv_iconst (v := mI 0) hx hb dX4_init_13 rfl ?_
  refine rb_puti 0 B hw (by decide) sh_77 fd_4_1 fp_4_1 rfl rfl lf_X4_17 dX4_init_14 (fun H locs hw => ?_)
  refine lv_aload_n hx hb dX4_init_17 rfl (lv_at hl 0 rfl) ?_
  refine rb_new (n := 79) B hw sh_79 (by decide) rfl in_X10 tyX10_ok (hd_X10 _ _) kl_X4_21 kj_X10 ii_X10 (Nat.le_of_ble_eq_true rfl) (Nat.le_of_ble_eq_true rfl) dX4_init_18 (fun H hw => ?_)
  refine W.widen (k := 2) (n := 60) (Nat.le_of_ble_eq_true rfl) (Nat.le_of_ble_eq_true rfl) ?_
  refine lv_dup hx hb dX4_init_21 rfl ?_
  refine lv_aload_n hx hb dX4_init_22 rfl (lv_at hl 1 rfl) ?_
  refine rb_ci (o := 79) (rest := [.ref (mAd bs 79), .ref (mAd bs 77)]) [.ref (mAd bs 3)] B hw (ci_79 l D cy bs qs qv qf _) km_X10_init kn_X10_init rfl lm_X4_23 dX4_init_23 hl.1 rfl rfl (Nat.le_of_ble_eq_true rfl) ⟨by decide, by decide⟩ ⟨Nat.le_of_ble_eq_true rfl, Nat.le_of_ble_eq_true rfl⟩ (fun H locs hw => ?_)
  refine W.widen (k := 7) (n := 215) (Nat.le_of_ble_eq_true rfl) (Nat.le_of_ble_eq_true rfl) ?_
  refine rb_putF (q := 79) B hN hw (by decide) sh_77 fd_4_2 tyX4_ok nmX4 ⟨rfl, rfl⟩ (by decide) (mRt_o _) lf_X4_26 dX4_init_26 (fun H locs hw => ?_)
  exact rb_vret B hw dX4_init_29 rfl (Nat.le_of_ble_eq_true rfl) (Nat.le_of_ble_eq_true rfl) rfl
def i_0 (σ : mMem) : mMem := (mup (mup (mup (mup (mupo (mup (i_77 (mupo (mup (i_54 (mupo (mup (i_35 (mupo (mup (i_26 (mupo (mup (i_20 (mupo (mup (i_13 (mupo (mup (i_8 (mupo (mup (i_3 (mupo (mup (i_1 (mupo σ 1 (mNew 7))) 0 0 ((1 : Nat) : Int)) 3 (mNew 5))) 0 8 ((3 : Nat) : Int)) 8 (mNew 5))) 0 9 ((8 : Nat) : Int)) 13 (mNew 6))) 0 1 ((13 : Nat) : Int)) 20 (mNew 10))) 0 2 ((20 : Nat) : Int)) 26 (mNew 0))) 0 3 ((26 : Nat) : Int)) 35 (mNew 9))) 0 4 ((35 : Nat) : Int)) 54 (mNew 3))) 0 5 ((54 : Nat) : Int)) 77 (mNew 4))) 0 6 ((77 : Nat) : Int)) 85 mZr) 0 7 ((85 : Nat) : Int)) 0 10 0) 0 11 (-1)) 0 12 1)
set_option maxRecDepth 100000 in
set_option maxHeartbeats 4000000 in
theorem ci_0 (l : Launch) (D : va_G) (cy : Nat → ClassId) (bs qs qv : Nat) (qf : Option Nat) (σ : mMem) : mBv l D cy bs qs qv qf yX11_init cX11_init 1 8 85 14354 [.ref (mAd bs 0)] 1 σ 86 (i_0 σ) := by
  refine mBv.of (lv := [(0, .ref (mAd bs 0))]) km_X11_init.2.2.2.2.2 (Nat.le_of_ble_eq_true rfl) rfl (fun p e s m args below meth c H locs ls B hN hw hl => ?_)
  obtain ⟨hx, hb, -, -, -⟩ := B.1.1
  refine lv_aload_n hx hb dX11_init_0 rfl (lv_at hl 0 rfl) ?_
  refine rb_obj (rest := []) B hl.1 lm_X11_1 ⟨by decide, by decide⟩ (Nat.le_of_ble_eq_true rfl) dX11_init_1 ?_
  refine lv_aload_n hx hb dX11_init_4 rfl (lv_at hl 0 rfl) ?_
  refine rb_new (n := 1) B hw sh_1 (by decide) rfl in_X7 tyX7_ok (hd_X7 _ _) kl_X11_7 kj_X7 ii_X7 (Nat.le_of_ble_eq_true rfl) (Nat.le_of_ble_eq_true rfl) dX11_init_5 (fun H hw => ?_)
  refine W.widen (k := 1) (n := 2) (Nat.le_of_ble_eq_true rfl) (Nat.le_of_ble_eq_true rfl) ?_
  refine lv_dup hx hb dX11_init_8 rfl ?_
  refine rb_cn (o := 1) (rest := [.ref (mAd bs 1), .ref (mAd bs 0)]) [] B hw (ci_1 l D cy bs qs qv qf _) km_X7_init kn_X7_init rfl B.2.1 dX11_init_9 hl.1 rfl rfl (Nat.le_of_ble_eq_true rfl) ⟨by decide, by decide⟩ ⟨Nat.le_of_ble_eq_true rfl, Nat.le_of_ble_eq_true rfl⟩ (fun H locs hw => ?_)
  refine W.widen (k := 2) (n := 1602) (Nat.le_of_ble_eq_true rfl) (Nat.le_of_ble_eq_true rfl) ?_
  refine rb_putF (q := 1) B hN hw (by decide) sh_0 fd_11_0 tyX11_ok nmX11 ⟨rfl, rfl⟩ (by decide) (mRt_o _) lf_X11_10 dX11_init_12 (fun H locs hw => ?_)
  refine lv_aload_n hx hb dX11_init_15 rfl (lv_at hl 0 rfl) ?_
  refine rb_new (n := 3) B hw sh_3 (by decide) rfl in_X5 tyX5_ok (hd_X5 _ _) kl_X11_16 kj_X5 ii_X5 (Nat.le_of_ble_eq_true rfl) (Nat.le_of_ble_eq_true rfl) dX11_init_16 (fun H hw => ?_)
  refine W.widen (k := 3) (n := 1617) (Nat.le_of_ble_eq_true rfl) (Nat.le_of_ble_eq_true rfl) ?_
  refine lv_dup hx hb dX11_init_19 rfl ?_
  refine rb_ci (o := 3) (rest := [.ref (mAd bs 3), .ref (mAd bs 0)]) [] B hw (ci_3 l D cy bs qs qv qf _) km_X5_init kn_X5_init rfl lm_X11_18 dX11_init_20 hl.1 rfl rfl (Nat.le_of_ble_eq_true rfl) ⟨by decide, by decide⟩ ⟨Nat.le_of_ble_eq_true rfl, Nat.le_of_ble_eq_true rfl⟩ (fun H locs hw => ?_)
  refine W.widen (k := 7) (n := 3364) (Nat.le_of_ble_eq_true rfl) (Nat.le_of_ble_eq_true rfl) ?_
  refine rb_putR (q := 3) B hw (by decide) sh_0 fd_11_8 fp_11_8 (by decide) (mRt_o _) lf_X11_19 dX11_init_23 (fun H locs hw => ?_)
  refine lv_aload_n hx hb dX11_init_26 rfl (lv_at hl 0 rfl) ?_
  refine rb_new (n := 8) B hw sh_8 (by decide) rfl in_X5 tyX5_ok (hd_X5 _ _) kl_X11_16 kj_X5 ii_X5 (Nat.le_of_ble_eq_true rfl) (Nat.le_of_ble_eq_true rfl) dX11_init_27 (fun H hw => ?_)
  refine W.widen (k := 8) (n := 3379) (Nat.le_of_ble_eq_true rfl) (Nat.le_of_ble_eq_true rfl) ?_
  refine lv_dup hx hb dX11_init_30 rfl ?_
  refine rb_ci (o := 8) (rest := [.ref (mAd bs 8), .ref (mAd bs 0)]) [] B hw (ci_8 l D cy bs qs qv qf _) km_X5_init kn_X5_init rfl lm_X11_18 dX11_init_31 hl.1 rfl rfl (Nat.le_of_ble_eq_true rfl) ⟨by decide, by decide⟩ ⟨Nat.le_of_ble_eq_true rfl, Nat.le_of_ble_eq_true rfl⟩ (fun H locs hw => ?_)
  refine W.widen (k := 12) (n := 5126) (Nat.le_of_ble_eq_true rfl) (Nat.le_of_ble_eq_true rfl) ?_
  refine rb_putR (q := 8) B hw (by decide) sh_0 fd_11_9 fp_11_9 (by decide) (mRt_o _) lf_X11_23 dX11_init_34 (fun H locs hw => ?_)
  refine lv_aload_n hx hb dX11_init_37 rfl (lv_at hl 0 rfl) ?_
  refine rb_new (n := 13) B hw sh_13 (by decide) rfl in_X6 tyX6_ok (hd_X6 _ _) kl_X11_26 kj_X6 ii_X6 (Nat.le_of_ble_eq_true rfl) (Nat.le_of_ble_eq_true rfl) dX11_init_38 (fun H hw => ?_)
  refine W.widen (k := 13) (n := 5129) (Nat.le_of_ble_eq_true rfl) (Nat.le_of_ble_eq_true rfl) ?_
  refine lv_dup hx hb dX11_init_41 rfl ?_
  refine lv_aload_n hx hb dX11_init_42 rfl (lv_at hl 0 rfl) ?_
  refine rb_getr (q := 1) B hw (by decide) sh_0 fd_11_0 (by decide) rfl lf_X11_10 dX11_init_43 ?_
  refine lv_aload_n hx hb dX11_init_46 rfl (lv_at hl 0 rfl) ?_
  refine rb_getr (q := 8) B hw (by decide) sh_0 fd_11_9 (by decide) rfl lf_X11_23 dX11_init_47 ?_
  refine rb_ci (o := 13) (rest := [.ref (mAd bs 13), .ref (mAd bs 0)]) [.ref (mAd bs 1), .ref (mAd bs 8)] B hw (ci_13 l D cy bs qs qv qf _) km_X6_init kn_X6_init rfl lm_X11_28 dX11_init_50 hl.1 rfl rfl (Nat.le_of_ble_eq_true rfl) ⟨by decide, by decide⟩ ⟨Nat.le_of_ble_eq_true rfl, Nat.le_of_ble_eq_true rfl⟩ (fun H locs hw => ?_)
  refine W.widen (k := 19) (n := 9972) (Nat.le_of_ble_eq_true rfl) (Nat.le_of_ble_eq_true rfl) ?_
  refine rb_putF (q := 13) B hN hw (by decide) sh_0 fd_11_1 tyX11_ok nmX11 ⟨rfl, rfl⟩ (by decide) (mRt_o _) lf_X11_31 dX11_init_53 (fun H locs hw => ?_)
  refine lv_aload_n hx hb dX11_init_56 rfl (lv_at hl 0 rfl) ?_
  refine rb_new (n := 20) B hw sh_20 (by decide) rfl in_X10 tyX10_ok (hd_X10 _ _) kl_X11_35 kj_X10 ii_X10 (Nat.le_of_ble_eq_true rfl) (Nat.le_of_ble_eq_true rfl) dX11_init_57 (fun H hw => ?_)
  refine W.widen (k := 20) (n := 9980) (Nat.le_of_ble_eq_true rfl) (Nat.le_of_ble_eq_true rfl) ?_
  refine lv_dup hx hb dX11_init_60 rfl ?_
  refine lv_aload_n hx hb dX11_init_61 rfl (lv_at hl 0 rfl) ?_
  refine rb_getr (q := 3) B hw (by decide) sh_0 fd_11_8 (by decide) rfl lf_X11_19 dX11_init_62 ?_
  refine rb_ci (o := 20) (rest := [.ref (mAd bs 20), .ref (mAd bs 0)]) [.ref (mAd bs 3)] B hw (ci_20 l D cy bs qs qv qf _) km_X10_init kn_X10_init rfl lm_X11_37 dX11_init_65 hl.1 rfl rfl (Nat.le_of_ble_eq_true rfl) ⟨by decide, by decide⟩ ⟨Nat.le_of_ble_eq_true rfl, Nat.le_of_ble_eq_true rfl⟩ (fun H locs hw => ?_)
  refine W.widen (k := 25) (n := 10135) (Nat.le_of_ble_eq_true rfl) (Nat.le_of_ble_eq_true rfl) ?_
  refine rb_putF (q := 20) B hN hw (by decide) sh_0 fd_11_2 tyX11_ok nmX11 ⟨rfl, rfl⟩ (by decide) (mRt_o _) lf_X11_40 dX11_init_68 (fun H locs hw => ?_)
  refine lv_aload_n hx hb dX11_init_71 rfl (lv_at hl 0 rfl) ?_
  refine rb_new (n := 26) B hw sh_26 (by decide) rfl in_X0 tyX0_ok (hd_X0 _ _) kl_X11_44 kj_X0 ii_X0 (Nat.le_of_ble_eq_true rfl) (Nat.le_of_ble_eq_true rfl) dX11_init_72 (fun H hw => ?_)
  refine W.widen (k := 26) (n := 10139) (Nat.le_of_ble_eq_true rfl) (Nat.le_of_ble_eq_true rfl) ?_
  refine lv_dup hx hb dX11_init_75 rfl ?_
  refine lv_aload_n hx hb dX11_init_76 rfl (lv_at hl 0 rfl) ?_
  refine rb_getr (q := 3) B hw (by decide) sh_0 fd_11_8 (by decide) rfl lf_X11_19 dX11_init_77 ?_
  refine rb_ci (o := 26) (rest := [.ref (mAd bs 26), .ref (mAd bs 0)]) [.ref (mAd bs 3)] B hw (ci_26 l D cy bs qs qv qf _) km_X0_init kn_X0_init rfl lm_X11_46 dX11_init_80 hl.1 rfl rfl (Nat.le_of_ble_eq_true rfl) ⟨by decide, by decide⟩ ⟨Nat.le_of_ble_eq_true rfl, Nat.le_of_ble_eq_true rfl⟩ (fun H locs hw => ?_)
  refine W.widen (k := 34) (n := 10950) (Nat.le_of_ble_eq_true rfl) (Nat.le_of_ble_eq_true rfl) ?_
  refine rb_putF (q := 26) B hN hw (by decide) sh_0 fd_11_3 tyX11_ok nmX11 ⟨rfl, rfl⟩ (by decide) (mRt_o _) lf_X11_47 dX11_init_83 (fun H locs hw => ?_)
  refine lv_aload_n hx hb dX11_init_86 rfl (lv_at hl 0 rfl) ?_
  refine rb_new (n := 35) B hw sh_35 (by decide) rfl in_X9 tyX9_ok (hd_X9 _ _) kl_X11_51 kj_X9 ii_X9 (Nat.le_of_ble_eq_true rfl) (Nat.le_of_ble_eq_true rfl) dX11_init_87 (fun H hw => ?_)
  refine W.widen (k := 35) (n := 10954) (Nat.le_of_ble_eq_true rfl) (Nat.le_of_ble_eq_true rfl) ?_
  refine lv_dup hx hb dX11_init_90 rfl ?_
  refine lv_aload_n hx hb dX11_init_91 rfl (lv_at hl 0 rfl) ?_
  refine rb_getr (q := 3) B hw (by decide) sh_0 fd_11_8 (by decide) rfl lf_X11_19 dX11_init_92 ?_
  refine rb_ci (o := 35) (rest := [.ref (mAd bs 35), .ref (mAd bs 0)]) [.ref (mAd bs 3)] B hw (ci_35 l D cy bs qs qv qf _) km_X9_init kn_X9_init rfl lm_X11_53 dX11_init_95 hl.1 rfl rfl (Nat.le_of_ble_eq_true rfl) ⟨by decide, by decide⟩ ⟨Nat.le_of_ble_eq_true rfl, Nat.le_of_ble_eq_true rfl⟩ (fun H locs hw => ?_)
  refine W.widen (k := 53) (n := 11585) (Nat.le_of_ble_eq_true rfl) (Nat.le_of_ble_eq_true rfl) ?_
  refine rb_putF (q := 35) B hN hw (by decide) sh_0 fd_11_4 tyX11_ok nmX11 ⟨rfl, rfl⟩ (by decide) (mRt_o _) lf_X11_54 dX11_init_98 (fun H locs hw => ?_)
  refine lv_aload_n hx hb dX11_init_101 rfl (lv_at hl 0 rfl) ?_
  refine rb_new (n := 54) B hw sh_54 (by decide) rfl in_X3 tyX3_ok (hd_X3 _ _) kl_X11_58 kj_X3 ii_X3 (Nat.le_of_ble_eq_true rfl) (Nat.le_of_ble_eq_true rfl) dX11_init_102 (fun H hw => ?_)
  refine W.widen (k := 54) (n := 11590) (Nat.le_of_ble_eq_true rfl) (Nat.le_of_ble_eq_true rfl) ?_
  refine lv_dup hx hb dX11_init_105 rfl ?_
  refine rb_ci (o := 54) (rest := [.ref (mAd bs 54), .ref (mAd bs 0)]) [] B hw (ci_54 l D cy bs qs qv qf _) km_X3_init kn_X3_init rfl lm_X11_60 dX11_init_106 hl.1 rfl rfl (Nat.le_of_ble_eq_true rfl) ⟨by decide, by decide⟩ ⟨Nat.le_of_ble_eq_true rfl, Nat.le_of_ble_eq_true rfl⟩ (fun H locs hw => ?_)
  refine W.widen (k := 76) (n := 14130) (Nat.le_of_ble_eq_true rfl) (Nat.le_of_ble_eq_true rfl) ?_
  refine rb_putF (q := 54) B hN hw (by decide) sh_0 fd_11_5 tyX11_ok nmX11 ⟨rfl, rfl⟩ (by decide) (mRt_o _) lf_X11_61 dX11_init_109 (fun H locs hw => ?_)
  refine lv_aload_n hx hb dX11_init_112 rfl (lv_at hl 0 rfl) ?_
  refine rb_new (n := 77) B hw sh_77 (by decide) rfl in_X4 tyX4_ok (hd_X4 _ _) kl_X11_65 kj_X4 ii_X4 (Nat.le_of_ble_eq_true rfl) (Nat.le_of_ble_eq_true rfl) dX11_init_113 (fun H hw => ?_)
  refine W.widen (k := 77) (n := 14133) (Nat.le_of_ble_eq_true rfl) (Nat.le_of_ble_eq_true rfl) ?_
  refine lv_dup hx hb dX11_init_116 rfl ?_
  refine lv_aload_n hx hb dX11_init_117 rfl (lv_at hl 0 rfl) ?_
  refine rb_getr (q := 3) B hw (by decide) sh_0 fd_11_8 (by decide) rfl lf_X11_19 dX11_init_118 ?_
  refine rb_ci (o := 77) (rest := [.ref (mAd bs 77), .ref (mAd bs 0)]) [.ref (mAd bs 3)] B hw (ci_77 l D cy bs qs qv qf _) km_X4_init kn_X4_init rfl lm_X11_67 dX11_init_121 hl.1 rfl rfl (Nat.le_of_ble_eq_true rfl) ⟨by decide, by decide⟩ ⟨Nat.le_of_ble_eq_true rfl, Nat.le_of_ble_eq_true rfl⟩ (fun H locs hw => ?_)
  refine W.widen (k := 84) (n := 14348) (Nat.le_of_ble_eq_true rfl) (Nat.le_of_ble_eq_true rfl) ?_
  refine rb_putF (q := 77) B hN hw (by decide) sh_0 fd_11_6 tyX11_ok nmX11 ⟨rfl, rfl⟩ (by decide) (mRt_o _) lf_X11_68 dX11_init_124 (fun H locs hw => ?_)
  refine lv_aload_n hx hb dX11_init_127 rfl (lv_at hl 0 rfl) ?_
  refine lv_bipush (v := mI 6) hx hb dX11_init_128 (by decide) ?_
  refine rb_newi (n := 85) (len := 6) B hw sh_85 rfl (by decide) (Nat.le_of_ble_eq_true rfl) (Nat.le_of_ble_eq_true rfl) dX11_init_130 (fun H hw => ?_)
  refine W.widen (k := 85) (n := 14354) (Nat.le_of_ble_eq_true rfl) (Nat.le_of_ble_eq_true rfl) ?_
  refine rb_putF (q := 85) B hN hw (by decide) sh_0 fd_11_7 tyX11_ok nmX11 ⟨rfl, rfl⟩ (by decide) (mRt_a _) lf_X11_72 dX11_init_132 (fun H locs hw => ?_)
  refine lv_aload_n hx hb dX11_init_135 rfl (lv_at hl 0 rfl) ?_
  refine lv_iconst (v := mI 0) hx hb dX11_init_136 rfl ?_
  refine rb_puti 0 B hw (by decide) sh_0 fd_11_10 fp_11_10 rfl rfl lf_X11_76 dX11_init_137 (fun H locs hw => ?_)
  refine lv_aload_n hx hb dX11_init_140 rfl (lv_at hl 0 rfl) ?_
  refine lv_iconst (v := mI (-1)) hx hb dX11_init_141 rfl ?_
  refine rb_puti (-1) B hw (by decide) sh_0 fd_11_11 fp_11_11 rfl rfl lf_X11_80 dX11_init_142 (fun H locs hw => ?_)
  refine lv_aload_n hx hb dX11_init_145 rfl (lv_at hl 0 rfl) ?_
  refine lv_iconst (v := mI 1) hx hb dX11_init_146 rfl ?_
  refine rb_puti 1 B hw (by decide) sh_0 fd_11_12 fp_11_12 rfl rfl lf_X11_83 dX11_init_147 (fun H locs hw => ?_)
  exact rb_vret B hw dX11_init_150 rfl (Nat.le_of_ble_eq_true rfl) (Nat.le_of_ble_eq_true rfl) rfl
def i_86 (σ : mMem) : mMem := (mDfl1 (mDfl0 (mup (mup (mup (mup (mup (mup (mupo (mup (mupo (mup (mupo (mup (mupo (mup (mup (mupo (mup (mup (mup (mup (mup (mup (mup (mup (mup (mupo (mup (mupo (mup (mup (mup (mup (mupo (mup (mupo (mup (mupo (mup (mupo (mup (mupo (mup (mupo (mup (mupo (mup (mupo (mup (mupo (mup (mupo (mup (mup (mup (mupo (mup (mup (mup (mupo (mup (mupo (mup (mupo (mup (mupo (mup (mupo (mup (mup (mup (mup (mupo (mup (mupo (mup (mupo (mup (mupo (mup (mupo (mup (mupo (mup (mupo (mup (mupo (mup (mupo (mup (mupo (mup (mupo (mup (mupo (mup (mupo (mup (mupo (mup (mupo (mup (mup (mup (mup (mup (mup (mup (mup (mup (mup (mup (mup (mup (mup (mupo σ 87 mZr) 86 0 ((87 : Nat) : Int)) 86 1 0) 86 2 0) 86 3 0) 86 4 0) 86 5 0) 86 6 0) 86 7 0) 86 8 0) 86 9 (-1)) 86 10 0) 86 11 (-1)) 86 12 (-1)) 86 13 0) 88 mZr) 86 14 ((88 : Nat) : Int)) 89 mZr) 86 15 ((89 : Nat) : Int)) 90 mZr) 86 16 ((90 : Nat) : Int)) 91 mZr) 86 17 ((91 : Nat) : Int)) 92 mZr) 86 18 ((92 : Nat) : Int)) 93 mZr) 86 19 ((93 : Nat) : Int)) 94 mZr) 86 20 ((94 : Nat) : Int)) 95 mZr) 86 21 ((95 : Nat) : Int)) 96 mZr) 86 22 ((96 : Nat) : Int)) 97 mZr) 86 23 ((97 : Nat) : Int)) 98 mZr) 86 24 ((98 : Nat) : Int)) 99 mZr) 86 25 ((99 : Nat) : Int)) 100 mZr) 86 26 ((100 : Nat) : Int)) 101 mZr) 86 27 ((101 : Nat) : Int)) 102 mZr) 86 28 ((102 : Nat) : Int)) 86 29 0) 86 30 1) 86 31 0) 103 mZr) 86 32 ((103 : Nat) : Int)) 104 mZr) 86 33 ((104 : Nat) : Int)) 105 mZr) 86 34 ((105 : Nat) : Int)) 106 mZr) 86 35 ((106 : Nat) : Int)) 107 mZr) 86 36 ((107 : Nat) : Int)) 86 37 0) 86 38 0) 108 mZr) 86 39 ((108 : Nat) : Int)) 86 40 0) 86 41 0) 109 mZr) 86 42 ((109 : Nat) : Int)) 110 mZr) 86 43 ((110 : Nat) : Int)) 111 mZr) 86 44 ((111 : Nat) : Int)) 112 mZr) 86 45 ((112 : Nat) : Int)) 113 mZr) 86 46 ((113 : Nat) : Int)) 114 mZr) 86 47 ((114 : Nat) : Int)) 115 mZr) 86 48 ((115 : Nat) : Int)) 116 mZr) 86 49 ((116 : Nat) : Int)) 117 mZr) 86 50 ((117 : Nat) : Int)) 118 mZr) 86 51 ((118 : Nat) : Int)) 86 52 0) 86 53 0) 86 54 1) 119 mZr) 86 55 ((119 : Nat) : Int)) 120 mZr) 86 56 ((120 : Nat) : Int)) 86 57 (-1)) 86 58 0) 86 59 0) 86 60 (-1)) 86 61 0) 86 62 0) 86 63 0) 86 64 0) 121 mZr) 86 65 ((121 : Nat) : Int)) 86 66 0) 122 mZr) 86 67 ((122 : Nat) : Int)) 123 mZr) 86 68 ((123 : Nat) : Int)) 124 mZr) 86 69 ((124 : Nat) : Int)) 125 mZr) 86 70 ((125 : Nat) : Int)) 86 71 0) 98 (mw 0).toNat (-1)) 98 (mw (0 + 1)).toNat (-1)) 98 (mw ((0 + 1) + 1)).toNat (-1)) 98 (mw (((0 + 1) + 1) + 1)).toNat (-1))))
set_option maxRecDepth 100000 in
set_option maxHeartbeats 4000000 in
theorem ci_86 (l : Launch) (D : va_G) (cy : Nat → ClassId) (bs qs qv : Nat) (qf : Option Nat) (σ : mMem) : mBv l D cy bs qs qv qf yX12_init cX12_init 2 2 39 16404 [.ref (mAd bs 86)] 87 σ 126 (i_86 σ) := by
  refine mBv.of (lv := [(0, .ref (mAd bs 86))]) km_X12_init.2.2.2.2.2 (Nat.le_of_ble_eq_true rfl) rfl (fun p e s m args below meth c H locs ls B hN hw hl => ?_)
  obtain ⟨hx, hb, -, -, -⟩ := B.1.1
  refine lv_aload_n hx hb dX12_init_0 rfl (lv_at hl 0 rfl) ?_
  refine rb_obj (rest := []) B hl.1 lm_X12_1 ⟨by decide, by decide⟩ (Nat.le_of_ble_eq_true rfl) dX12_init_1 ?_
  refine lv_aload_n hx hb dX12_init_4 rfl (lv_at hl 0 rfl) ?_
  refine lv_sipush (v := mI 1800) hx hb dX12_init_5 (by decide) ?_
  refine rb_newi (n := 87) (len := 1800) B hw sh_87 rfl (by decide) (Nat.le_of_ble_eq_true rfl) (Nat.le_of_ble_eq_true rfl) dX12_init_8 (fun H hw => ?_)
  refine W.widen (k := 1) (n := 1800) (Nat.le_of_ble_eq_true rfl) (Nat.le_of_ble_eq_true rfl) ?_
  refine rb_putF (q := 87) B hN hw (by decide) sh_86 fd_12_0 tyX12_ok nmX12 ⟨rfl, rfl⟩ (by decide) (mRt_a _) lf_X12_7 dX12_init_10 (fun H locs hw => ?_)
  refine lv_aload_n hx hb dX12_init_13 rfl (lv_at hl 0 rfl) ?_
  refine lv_iconst (v := mI 0) hx hb dX12_init_14 rfl ?_
  refine rb_puti 0 B hw (by decide) sh_86 fd_12_1 fp_12_1 rfl rfl lf_X12_13 dX12_init_15 (fun H locs hw => ?_)
  refine lv_aload_n hx hb dX12_init_18 rfl (lv_at hl 0 rfl) ?_
  refine lv_iconst (v := mI 0) hx hb dX12_init_19 rfl ?_
  refine rb_puti 0 B hw (by decide) sh_86 fd_12_2 fp_12_2 rfl rfl lf_X12_17 dX12_init_20 (fun H locs hw => ?_)
  refine lv_aload_n hx hb dX12_init_23 rfl (lv_at hl 0 rfl) ?_
  refine lv_iconst (v := mI 0) hx hb dX12_init_24 rfl ?_
  refine rb_puti 0 B hw (by decide) sh_86 fd_12_3 fp_12_3 rfl rfl lf_X12_20 dX12_init_25 (fun H locs hw => ?_)
  refine lv_aload_n hx hb dX12_init_28 rfl (lv_at hl 0 rfl) ?_
  refine lv_iconst (v := mI 0) hx hb dX12_init_29 rfl ?_
  refine rb_puti 0 B hw (by decide) sh_86 fd_12_4 fp_12_4 rfl rfl lf_X12_23 dX12_init_30 (fun H locs hw => ?_)
  refine lv_aload_n hx hb dX12_init_33 rfl (lv_at hl 0 rfl) ?_
  refine lv_iconst (v := mI 0) hx hb dX12_init_34 rfl ?_
  refine rb_puti 0 B hw (by decide) sh_86 fd_12_5 fp_12_5 rfl rfl lf_X12_26 dX12_init_35 (fun H locs hw => ?_)
  refine lv_aload_n hx hb dX12_init_38 rfl (lv_at hl 0 rfl) ?_
  refine lv_iconst (v := mI 0) hx hb dX12_init_39 rfl ?_
  refine rb_puti 0 B hw (by decide) sh_86 fd_12_6 fp_12_6 rfl rfl lf_X12_29 dX12_init_40 (fun H locs hw => ?_)
  refine lv_aload_n hx hb dX12_init_43 rfl (lv_at hl 0 rfl) ?_
  refine lv_lconst (v := mL 0) hx hb dX12_init_44 (by decide) ?_
  refine rb_putl 0 B hw (by decide) sh_86 fd_12_7 fp_12_7 rfl rfl lf_X12_32 dX12_init_45 (fun H locs hw => ?_)
  refine lv_aload_n hx hb dX12_init_48 rfl (lv_at hl 0 rfl) ?_
  refine lv_iconst (v := mI 0) hx hb dX12_init_49 rfl ?_
  refine rb_puti 0 B hw (by decide) sh_86 fd_12_8 fp_12_8 rfl rfl lf_X12_36 dX12_init_50 (fun H locs hw => ?_)
  refine lv_aload_n hx hb dX12_init_53 rfl (lv_at hl 0 rfl) ?_
  refine lv_iconst (v := mI (-1)) hx hb dX12_init_54 rfl ?_
  refine rb_puti (-1) B hw (by decide) sh_86 fd_12_9 fp_12_9 rfl rfl lf_X12_39 dX12_init_55 (fun H locs hw => ?_)
  refine lv_aload_n hx hb dX12_init_58 rfl (lv_at hl 0 rfl) ?_
  refine lv_iconst (v := mI 0) hx hb dX12_init_59 rfl ?_
  refine rb_puti 0 B hw (by decide) sh_86 fd_12_10 fp_12_10 rfl rfl lf_X12_42 dX12_init_60 (fun H locs hw => ?_)
  refine lv_aload_n hx hb dX12_init_63 rfl (lv_at hl 0 rfl) ?_
  refine lv_iconst (v := mI (-1)) hx hb dX12_init_64 rfl ?_
  refine rb_puti (-1) B hw (by decide) sh_86 fd_12_11 fp_12_11 rfl rfl lf_X12_45 dX12_init_65 (fun H locs hw => ?_)
  refine lv_aload_n hx hb dX12_init_68 rfl (lv_at hl 0 rfl) ?_
  refine lv_iconst (v := mI (-1)) hx hb dX12_init_69 rfl ?_
  refine rb_puti (-1) B hw (by decide) sh_86 fd_12_12 fp_12_12 rfl rfl lf_X12_48 dX12_init_70 (fun H locs hw => ?_)
  refine lv_aload_n hx hb dX12_init_73 rfl (lv_at hl 0 rfl) ?_
  refine lv_iconst (v := mI 0) hx hb dX12_init_74 rfl ?_
  refine rb_puti 0 B hw (by decide) sh_86 fd_12_13 fp_12_13 rfl rfl lf_X12_51 dX12_init_75 (fun H locs hw => ?_)
  refine lv_aload_n hx hb dX12_init_78 rfl (lv_at hl 0 rfl) ?_
  refine lv_iconst (v := mI 2) hx hb dX12_init_79 rfl ?_
  refine rb_newi (n := 88) (len := 2) B hw sh_88 rfl (by decide) (Nat.le_of_ble_eq_true rfl) (Nat.le_of_ble_eq_true rfl) dX12_init_80 (fun H hw => ?_)
  refine W.widen (k := 2) (n := 1802) (Nat.le_of_ble_eq_true rfl) (Nat.le_of_ble_eq_true rfl) ?_
  refine rb_putF (q := 88) B hN hw (by decide) sh_86 fd_12_14 tyX12_ok nmX12 ⟨rfl, rfl⟩ (by decide) (mRt_a _) lf_X12_54 dX12_init_82 (fun H locs hw => ?_)
  refine lv_aload_n hx hb dX12_init_85 rfl (lv_at hl 0 rfl) ?_
  refine lv_iconst (v := mI 2) hx hb dX12_init_86 rfl ?_
  refine rb_newi (n := 89) (len := 2) B hw sh_89 rfl (by decide) (Nat.le_of_ble_eq_true rfl) (Nat.le_of_ble_eq_true rfl) dX12_init_87 (fun H hw => ?_)
  refine W.widen (k := 3) (n := 1804) (Nat.le_of_ble_eq_true rfl) (Nat.le_of_ble_eq_true rfl) ?_
  refine rb_putF (q := 89) B hN hw (by decide) sh_86 fd_12_15 tyX12_ok nmX12 ⟨rfl, rfl⟩ (by decide) (mRt_a _) lf_X12_57 dX12_init_89 (fun H locs hw => ?_)
  refine lv_aload_n hx hb dX12_init_92 rfl (lv_at hl 0 rfl) ?_
  refine lv_sipush (v := mI 162) hx hb dX12_init_93 (by decide) ?_
  refine rb_newi (n := 90) (len := 162) B hw sh_90 rfl (by decide) (Nat.le_of_ble_eq_true rfl) (Nat.le_of_ble_eq_true rfl) dX12_init_96 (fun H hw => ?_)
  refine W.widen (k := 4) (n := 1966) (Nat.le_of_ble_eq_true rfl) (Nat.le_of_ble_eq_true rfl) ?_
  refine rb_putF (q := 90) B hN hw (by decide) sh_86 fd_12_16 tyX12_ok nmX12 ⟨rfl, rfl⟩ (by decide) (mRt_a _) lf_X12_60 dX12_init_98 (fun H locs hw => ?_)
  refine lv_aload_n hx hb dX12_init_101 rfl (lv_at hl 0 rfl) ?_
  refine lv_iconst (v := mI 2) hx hb dX12_init_102 rfl ?_
  refine rb_newi (n := 91) (len := 2) B hw sh_91 rfl (by decide) (Nat.le_of_ble_eq_true rfl) (Nat.le_of_ble_eq_true rfl) dX12_init_103 (fun H hw => ?_)
  refine W.widen (k := 5) (n := 1968) (Nat.le_of_ble_eq_true rfl) (Nat.le_of_ble_eq_true rfl) ?_
  refine rb_putF (q := 91) B hN hw (by decide) sh_86 fd_12_17 tyX12_ok nmX12 ⟨rfl, rfl⟩ (by decide) (mRt_a _) lf_X12_63 dX12_init_105 (fun H locs hw => ?_)
  refine lv_aload_n hx hb dX12_init_108 rfl (lv_at hl 0 rfl) ?_
  refine lv_bipush (v := mI 12) hx hb dX12_init_109 (by decide) ?_
  refine rb_newi (n := 92) (len := 12) B hw sh_92 rfl (by decide) (Nat.le_of_ble_eq_true rfl) (Nat.le_of_ble_eq_true rfl) dX12_init_111 (fun H hw => ?_)
  refine W.widen (k := 6) (n := 1980) (Nat.le_of_ble_eq_true rfl) (Nat.le_of_ble_eq_true rfl) ?_
  refine rb_putF (q := 92) B hN hw (by decide) sh_86 fd_12_18 tyX12_ok nmX12 ⟨rfl, rfl⟩ (by decide) (mRt_a _) lf_X12_66 dX12_init_113 (fun H locs hw => ?_)
  refine lv_aload_n hx hb dX12_init_116 rfl (lv_at hl 0 rfl) ?_
  refine lv_bipush (v := mI 12) hx hb dX12_init_117 (by decide) ?_
  refine rb_newi (n := 93) (len := 12) B hw sh_93 rfl (by decide) (Nat.le_of_ble_eq_true rfl) (Nat.le_of_ble_eq_true rfl) dX12_init_119 (fun H hw => ?_)
  refine W.widen (k := 7) (n := 1992) (Nat.le_of_ble_eq_true rfl) (Nat.le_of_ble_eq_true rfl) ?_
  refine rb_putF (q := 93) B hN hw (by decide) sh_86 fd_12_19 tyX12_ok nmX12 ⟨rfl, rfl⟩ (by decide) (mRt_a _) lf_X12_69 dX12_init_121 (fun H locs hw => ?_)
  refine lv_aload_n hx hb dX12_init_124 rfl (lv_at hl 0 rfl) ?_
  refine lv_bipush (v := mI 12) hx hb dX12_init_125 (by decide) ?_
  refine rb_newi (n := 94) (len := 12) B hw sh_94 rfl (by decide) (Nat.le_of_ble_eq_true rfl) (Nat.le_of_ble_eq_true rfl) dX12_init_127 (fun H hw => ?_)
  refine W.widen (k := 8) (n := 2004) (Nat.le_of_ble_eq_true rfl) (Nat.le_of_ble_eq_true rfl) ?_
  refine rb_putF (q := 94) B hN hw (by decide) sh_86 fd_12_20 tyX12_ok nmX12 ⟨rfl, rfl⟩ (by decide) (mRt_a _) lf_X12_72 dX12_init_129 (fun H locs hw => ?_)
  refine lv_aload_n hx hb dX12_init_132 rfl (lv_at hl 0 rfl) ?_
  refine lv_bipush (v := mI 12) hx hb dX12_init_133 (by decide) ?_
  refine rb_newi (n := 95) (len := 12) B hw sh_95 rfl (by decide) (Nat.le_of_ble_eq_true rfl) (Nat.le_of_ble_eq_true rfl) dX12_init_135 (fun H hw => ?_)
  refine W.widen (k := 9) (n := 2016) (Nat.le_of_ble_eq_true rfl) (Nat.le_of_ble_eq_true rfl) ?_
  refine rb_putF (q := 95) B hN hw (by decide) sh_86 fd_12_21 tyX12_ok nmX12 ⟨rfl, rfl⟩ (by decide) (mRt_a _) lf_X12_75 dX12_init_137 (fun H locs hw => ?_)
  refine lv_aload_n hx hb dX12_init_140 rfl (lv_at hl 0 rfl) ?_
  refine lv_bipush (v := mI 12) hx hb dX12_init_141 (by decide) ?_
  refine rb_newi (n := 96) (len := 12) B hw sh_96 rfl (by decide) (Nat.le_of_ble_eq_true rfl) (Nat.le_of_ble_eq_true rfl) dX12_init_143 (fun H hw => ?_)
  refine W.widen (k := 10) (n := 2028) (Nat.le_of_ble_eq_true rfl) (Nat.le_of_ble_eq_true rfl) ?_
  refine rb_putF (q := 96) B hN hw (by decide) sh_86 fd_12_22 tyX12_ok nmX12 ⟨rfl, rfl⟩ (by decide) (mRt_a _) lf_X12_78 dX12_init_145 (fun H locs hw => ?_)
  refine lv_aload_n hx hb dX12_init_148 rfl (lv_at hl 0 rfl) ?_
  refine lv_bipush (v := mI 6) hx hb dX12_init_149 (by decide) ?_
  refine rb_newi (n := 97) (len := 6) B hw sh_97 rfl (by decide) (Nat.le_of_ble_eq_true rfl) (Nat.le_of_ble_eq_true rfl) dX12_init_151 (fun H hw => ?_)
  refine W.widen (k := 11) (n := 2034) (Nat.le_of_ble_eq_true rfl) (Nat.le_of_ble_eq_true rfl) ?_
  refine rb_putF (q := 97) B hN hw (by decide) sh_86 fd_12_23 tyX12_ok nmX12 ⟨rfl, rfl⟩ (by decide) (mRt_a _) lf_X12_81 dX12_init_153 (fun H locs hw => ?_)
  refine lv_aload_n hx hb dX12_init_156 rfl (lv_at hl 0 rfl) ?_
  refine lv_iconst (v := mI 4) hx hb dX12_init_157 rfl ?_
  refine rb_newi (n := 98) (len := 4) B hw sh_98 rfl (by decide) (Nat.le_of_ble_eq_true rfl) (Nat.le_of_ble_eq_true rfl) dX12_init_158 (fun H hw => ?_)
  refine W.widen (k := 12) (n := 2038) (Nat.le_of_ble_eq_true rfl) (Nat.le_of_ble_eq_true rfl) ?_
  refine rb_putF (q := 98) B hN hw (by decide) sh_86 fd_12_24 tyX12_ok nmX12 ⟨rfl, rfl⟩ (by decide) (mRt_a _) lf_X12_84 dX12_init_160 (fun H locs hw => ?_)
  refine lv_aload_n hx hb dX12_init_163 rfl (lv_at hl 0 rfl) ?_
  refine lv_iconst (v := mI 4) hx hb dX12_init_164 rfl ?_
  refine rb_newi (n := 99) (len := 4) B hw sh_99 rfl (by decide) (Nat.le_of_ble_eq_true rfl) (Nat.le_of_ble_eq_true rfl) dX12_init_165 (fun H hw => ?_)
  refine W.widen (k := 13) (n := 2042) (Nat.le_of_ble_eq_true rfl) (Nat.le_of_ble_eq_true rfl) ?_
  refine rb_putF (q := 99) B hN hw (by decide) sh_86 fd_12_25 tyX12_ok nmX12 ⟨rfl, rfl⟩ (by decide) (mRt_a _) lf_X12_87 dX12_init_167 (fun H locs hw => ?_)
  refine lv_aload_n hx hb dX12_init_170 rfl (lv_at hl 0 rfl) ?_
  refine lv_sipush (v := mI 3200) hx hb dX12_init_171 (by decide) ?_
  refine rb_newi (n := 100) (len := 3200) B hw sh_100 rfl (by decide) (Nat.le_of_ble_eq_true rfl) (Nat.le_of_ble_eq_true rfl) dX12_init_174 (fun H hw => ?_)
  refine W.widen (k := 14) (n := 5242) (Nat.le_of_ble_eq_true rfl) (Nat.le_of_ble_eq_true rfl) ?_
  refine rb_putF (q := 100) B hN hw (by decide) sh_86 fd_12_26 tyX12_ok nmX12 ⟨rfl, rfl⟩ (by decide) (mRt_a _) lf_X12_90 dX12_init_176 (fun H locs hw => ?_)
  refine lv_aload_n hx hb dX12_init_179 rfl (lv_at hl 0 rfl) ?_
  refine lv_sipush (v := mI 3200) hx hb dX12_init_180 (by decide) ?_
  refine rb_newi (n := 101) (len := 3200) B hw sh_101 rfl (by decide) (Nat.le_of_ble_eq_true rfl) (Nat.le_of_ble_eq_true rfl) dX12_init_183 (fun H hw => ?_)
  refine W.widen (k := 15) (n := 8442) (Nat.le_of_ble_eq_true rfl) (Nat.le_of_ble_eq_true rfl) ?_
  refine rb_putF (q := 101) B hN hw (by decide) sh_86 fd_12_27 tyX12_ok nmX12 ⟨rfl, rfl⟩ (by decide) (mRt_a _) lf_X12_93 dX12_init_185 (fun H locs hw => ?_)
  refine lv_aload_n hx hb dX12_init_188 rfl (lv_at hl 0 rfl) ?_
  refine lv_bipush (v := mI 12) hx hb dX12_init_189 (by decide) ?_
  refine rb_newl (n := 102) (len := 12) B hw sh_102 rfl (by decide) (Nat.le_of_ble_eq_true rfl) (Nat.le_of_ble_eq_true rfl) dX12_init_191 (fun H hw => ?_)
  refine W.widen (k := 16) (n := 8454) (Nat.le_of_ble_eq_true rfl) (Nat.le_of_ble_eq_true rfl) ?_
  refine rb_putF (q := 102) B hN hw (by decide) sh_86 fd_12_28 tyX12_ok nmX12 ⟨rfl, rfl⟩ (by decide) (mRt_a _) lf_X12_96 dX12_init_193 (fun H locs hw => ?_)
  refine lv_aload_n hx hb dX12_init_196 rfl (lv_at hl 0 rfl) ?_
  refine lv_iconst (v := mI 0) hx hb dX12_init_197 rfl ?_
  refine rb_puti 0 B hw (by decide) sh_86 fd_12_29 fp_12_29 rfl rfl lf_X12_100 dX12_init_198 (fun H locs hw => ?_)
  refine lv_aload_n hx hb dX12_init_201 rfl (lv_at hl 0 rfl) ?_
  refine lv_iconst (v := mI 1) hx hb dX12_init_202 rfl ?_
  refine rb_puti 1 B hw (by decide) sh_86 fd_12_30 fp_12_30 rfl rfl lf_X12_103 dX12_init_203 (fun H locs hw => ?_)
  refine lv_aload_n hx hb dX12_init_206 rfl (lv_at hl 0 rfl) ?_
  refine lv_iconst (v := mI 0) hx hb dX12_init_207 rfl ?_
  refine rb_putz 0 B hw (by decide) sh_86 fd_12_31 fp_12_31 rfl rfl (by decide) lf_X12_106 dX12_init_208 (fun H locs hw => ?_)
  refine lv_aload_n hx hb dX12_init_211 rfl (lv_at hl 0 rfl) ?_
  refine lv_bipush (v := mI 20) hx hb dX12_init_212 (by decide) ?_
  refine rb_newi (n := 103) (len := 20) B hw sh_103 rfl (by decide) (Nat.le_of_ble_eq_true rfl) (Nat.le_of_ble_eq_true rfl) dX12_init_214 (fun H hw => ?_)
  refine W.widen (k := 17) (n := 8474) (Nat.le_of_ble_eq_true rfl) (Nat.le_of_ble_eq_true rfl) ?_
  refine rb_putF (q := 103) B hN hw (by decide) sh_86 fd_12_32 tyX12_ok nmX12 ⟨rfl, rfl⟩ (by decide) (mRt_a _) lf_X12_110 dX12_init_216 (fun H locs hw => ?_)
  refine lv_aload_n hx hb dX12_init_219 rfl (lv_at hl 0 rfl) ?_
  refine lv_bipush (v := mI 20) hx hb dX12_init_220 (by decide) ?_
  refine rb_newi (n := 104) (len := 20) B hw sh_104 rfl (by decide) (Nat.le_of_ble_eq_true rfl) (Nat.le_of_ble_eq_true rfl) dX12_init_222 (fun H hw => ?_)
  refine W.widen (k := 18) (n := 8494) (Nat.le_of_ble_eq_true rfl) (Nat.le_of_ble_eq_true rfl) ?_
  refine rb_putF (q := 104) B hN hw (by decide) sh_86 fd_12_33 tyX12_ok nmX12 ⟨rfl, rfl⟩ (by decide) (mRt_a _) lf_X12_113 dX12_init_224 (fun H locs hw => ?_)
  refine lv_aload_n hx hb dX12_init_227 rfl (lv_at hl 0 rfl) ?_
  refine lv_bipush (v := mI 20) hx hb dX12_init_228 (by decide) ?_
  refine rb_newz (n := 105) (len := 20) B hw sh_105 rfl (by decide) (Nat.le_of_ble_eq_true rfl) (Nat.le_of_ble_eq_true rfl) dX12_init_230 (fun H hw => ?_)
  refine W.widen (k := 19) (n := 8514) (Nat.le_of_ble_eq_true rfl) (Nat.le_of_ble_eq_true rfl) ?_
  refine rb_putF (q := 105) B hN hw (by decide) sh_86 fd_12_34 tyX12_ok nmX12 ⟨rfl, rfl⟩ (by decide) (mRt_a _) lf_X12_116 dX12_init_232 (fun H locs hw => ?_)
  refine lv_aload_n hx hb dX12_init_235 rfl (lv_at hl 0 rfl) ?_
  refine lv_bipush (v := mI 20) hx hb dX12_init_236 (by decide) ?_
  refine rb_newi (n := 106) (len := 20) B hw sh_106 rfl (by decide) (Nat.le_of_ble_eq_true rfl) (Nat.le_of_ble_eq_true rfl) dX12_init_238 (fun H hw => ?_)
  refine W.widen (k := 20) (n := 8534) (Nat.le_of_ble_eq_true rfl) (Nat.le_of_ble_eq_true rfl) ?_
  refine rb_putF (q := 106) B hN hw (by decide) sh_86 fd_12_35 tyX12_ok nmX12 ⟨rfl, rfl⟩ (by decide) (mRt_a _) lf_X12_120 dX12_init_240 (fun H locs hw => ?_)
  refine lv_aload_n hx hb dX12_init_243 rfl (lv_at hl 0 rfl) ?_
  refine lv_bipush (v := mI 20) hx hb dX12_init_244 (by decide) ?_
  refine rb_newi (n := 107) (len := 20) B hw sh_107 rfl (by decide) (Nat.le_of_ble_eq_true rfl) (Nat.le_of_ble_eq_true rfl) dX12_init_246 (fun H hw => ?_)
  refine W.widen (k := 21) (n := 8554) (Nat.le_of_ble_eq_true rfl) (Nat.le_of_ble_eq_true rfl) ?_
  refine rb_putF (q := 107) B hN hw (by decide) sh_86 fd_12_36 tyX12_ok nmX12 ⟨rfl, rfl⟩ (by decide) (mRt_a _) lf_X12_123 dX12_init_248 (fun H locs hw => ?_)
  refine lv_aload_n hx hb dX12_init_251 rfl (lv_at hl 0 rfl) ?_
  refine lv_iconst (v := mI 0) hx hb dX12_init_252 rfl ?_
  refine rb_puti 0 B hw (by decide) sh_86 fd_12_37 fp_12_37 rfl rfl lf_X12_126 dX12_init_253 (fun H locs hw => ?_)
  refine lv_aload_n hx hb dX12_init_256 rfl (lv_at hl 0 rfl) ?_
  refine lv_iconst (v := mI 0) hx hb dX12_init_257 rfl ?_
  refine rb_puti 0 B hw (by decide) sh_86 fd_12_38 fp_12_38 rfl rfl lf_X12_129 dX12_init_258 (fun H locs hw => ?_)
  refine lv_aload_n hx hb dX12_init_261 rfl (lv_at hl 0 rfl) ?_
  refine lv_sipush (v := mI 500) hx hb dX12_init_262 (by decide) ?_
  refine rb_newi (n := 108) (len := 500) B hw sh_108 rfl (by decide) (Nat.le_of_ble_eq_true rfl) (Nat.le_of_ble_eq_true rfl) dX12_init_265 (fun H hw => ?_)
  refine W.widen (k := 22) (n := 9054) (Nat.le_of_ble_eq_true rfl) (Nat.le_of_ble_eq_true rfl) ?_
  refine rb_putF (q := 108) B hN hw (by decide) sh_86 fd_12_39 tyX12_ok nmX12 ⟨rfl, rfl⟩ (by decide) (mRt_a _) lf_X12_132 dX12_init_267 (fun H locs hw => ?_)
  refine lv_aload_n hx hb dX12_init_270 rfl (lv_at hl 0 rfl) ?_
  refine lv_iconst (v := mI 0) hx hb dX12_init_271 rfl ?_
  refine rb_puti 0 B hw (by decide) sh_86 fd_12_40 fp_12_40 rfl rfl lf_X12_135 dX12_init_272 (fun H locs hw => ?_)
  refine lv_aload_n hx hb dX12_init_275 rfl (lv_at hl 0 rfl) ?_
  refine lv_iconst (v := mI 0) hx hb dX12_init_276 rfl ?_
  refine rb_putz 0 B hw (by decide) sh_86 fd_12_41 fp_12_41 rfl rfl (by decide) lf_X12_138 dX12_init_277 (fun H locs hw => ?_)
  refine lv_aload_n hx hb dX12_init_280 rfl (lv_at hl 0 rfl) ?_
  refine lv_bipush (v := mI 6) hx hb dX12_init_281 (by decide) ?_
  refine rb_newi (n := 109) (len := 6) B hw sh_109 rfl (by decide) (Nat.le_of_ble_eq_true rfl) (Nat.le_of_ble_eq_true rfl) dX12_init_283 (fun H hw => ?_)
  refine W.widen (k := 23) (n := 9060) (Nat.le_of_ble_eq_true rfl) (Nat.le_of_ble_eq_true rfl) ?_
  refine rb_putF (q := 109) B hN hw (by decide) sh_86 fd_12_42 tyX12_ok nmX12 ⟨rfl, rfl⟩ (by decide) (mRt_a _) lf_X12_141 dX12_init_285 (fun H locs hw => ?_)
  refine lv_aload_n hx hb dX12_init_288 rfl (lv_at hl 0 rfl) ?_
  refine lv_bipush (v := mI 22) hx hb dX12_init_289 (by decide) ?_
  refine rb_newi (n := 110) (len := 22) B hw sh_110 rfl (by decide) (Nat.le_of_ble_eq_true rfl) (Nat.le_of_ble_eq_true rfl) dX12_init_291 (fun H hw => ?_)
  refine W.widen (k := 24) (n := 9082) (Nat.le_of_ble_eq_true rfl) (Nat.le_of_ble_eq_true rfl) ?_
  refine rb_putF (q := 110) B hN hw (by decide) sh_86 fd_12_43 tyX12_ok nmX12 ⟨rfl, rfl⟩ (by decide) (mRt_a _) lf_X12_144 dX12_init_293 (fun H locs hw => ?_)
  refine lv_aload_n hx hb dX12_init_296 rfl (lv_at hl 0 rfl) ?_
  refine lv_bipush (v := mI 22) hx hb dX12_init_297 (by decide) ?_
  refine rb_newi (n := 111) (len := 22) B hw sh_111 rfl (by decide) (Nat.le_of_ble_eq_true rfl) (Nat.le_of_ble_eq_true rfl) dX12_init_299 (fun H hw => ?_)
  refine W.widen (k := 25) (n := 9104) (Nat.le_of_ble_eq_true rfl) (Nat.le_of_ble_eq_true rfl) ?_
  refine rb_putF (q := 111) B hN hw (by decide) sh_86 fd_12_44 tyX12_ok nmX12 ⟨rfl, rfl⟩ (by decide) (mRt_a _) lf_X12_147 dX12_init_301 (fun H locs hw => ?_)
  refine lv_aload_n hx hb dX12_init_304 rfl (lv_at hl 0 rfl) ?_
  refine lv_sipush (v := mI 132) hx hb dX12_init_305 (by decide) ?_
  refine rb_newi (n := 112) (len := 132) B hw sh_112 rfl (by decide) (Nat.le_of_ble_eq_true rfl) (Nat.le_of_ble_eq_true rfl) dX12_init_308 (fun H hw => ?_)
  refine W.widen (k := 26) (n := 9236) (Nat.le_of_ble_eq_true rfl) (Nat.le_of_ble_eq_true rfl) ?_
  refine rb_putF (q := 112) B hN hw (by decide) sh_86 fd_12_45 tyX12_ok nmX12 ⟨rfl, rfl⟩ (by decide) (mRt_a _) lf_X12_150 dX12_init_310 (fun H locs hw => ?_)
  refine lv_aload_n hx hb dX12_init_313 rfl (lv_at hl 0 rfl) ?_
  refine lv_sipush (v := mI 132) hx hb dX12_init_314 (by decide) ?_
  refine rb_newi (n := 113) (len := 132) B hw sh_113 rfl (by decide) (Nat.le_of_ble_eq_true rfl) (Nat.le_of_ble_eq_true rfl) dX12_init_317 (fun H hw => ?_)
  refine W.widen (k := 27) (n := 9368) (Nat.le_of_ble_eq_true rfl) (Nat.le_of_ble_eq_true rfl) ?_
  refine rb_putF (q := 113) B hN hw (by decide) sh_86 fd_12_46 tyX12_ok nmX12 ⟨rfl, rfl⟩ (by decide) (mRt_a _) lf_X12_153 dX12_init_319 (fun H locs hw => ?_)
  refine lv_aload_n hx hb dX12_init_322 rfl (lv_at hl 0 rfl) ?_
  refine lv_sipush (v := mI 132) hx hb dX12_init_323 (by decide) ?_
  refine rb_newi (n := 114) (len := 132) B hw sh_114 rfl (by decide) (Nat.le_of_ble_eq_true rfl) (Nat.le_of_ble_eq_true rfl) dX12_init_326 (fun H hw => ?_)
  refine W.widen (k := 28) (n := 9500) (Nat.le_of_ble_eq_true rfl) (Nat.le_of_ble_eq_true rfl) ?_
  refine rb_putF (q := 114) B hN hw (by decide) sh_86 fd_12_47 tyX12_ok nmX12 ⟨rfl, rfl⟩ (by decide) (mRt_a _) lf_X12_156 dX12_init_328 (fun H locs hw => ?_)
  refine lv_aload_n hx hb dX12_init_331 rfl (lv_at hl 0 rfl) ?_
  refine lv_sipush (v := mI 132) hx hb dX12_init_332 (by decide) ?_
  refine rb_newi (n := 115) (len := 132) B hw sh_115 rfl (by decide) (Nat.le_of_ble_eq_true rfl) (Nat.le_of_ble_eq_true rfl) dX12_init_335 (fun H hw => ?_)
  refine W.widen (k := 29) (n := 9632) (Nat.le_of_ble_eq_true rfl) (Nat.le_of_ble_eq_true rfl) ?_
  refine rb_putF (q := 115) B hN hw (by decide) sh_86 fd_12_48 tyX12_ok nmX12 ⟨rfl, rfl⟩ (by decide) (mRt_a _) lf_X12_159 dX12_init_337 (fun H locs hw => ?_)
  refine lv_aload_n hx hb dX12_init_340 rfl (lv_at hl 0 rfl) ?_
  refine lv_sipush (v := mI 132) hx hb dX12_init_341 (by decide) ?_
  refine rb_newi (n := 116) (len := 132) B hw sh_116 rfl (by decide) (Nat.le_of_ble_eq_true rfl) (Nat.le_of_ble_eq_true rfl) dX12_init_344 (fun H hw => ?_)
  refine W.widen (k := 30) (n := 9764) (Nat.le_of_ble_eq_true rfl) (Nat.le_of_ble_eq_true rfl) ?_
  refine rb_putF (q := 116) B hN hw (by decide) sh_86 fd_12_49 tyX12_ok nmX12 ⟨rfl, rfl⟩ (by decide) (mRt_a _) lf_X12_162 dX12_init_346 (fun H locs hw => ?_)
  refine lv_aload_n hx hb dX12_init_349 rfl (lv_at hl 0 rfl) ?_
  refine lv_bipush (v := mI 22) hx hb dX12_init_350 (by decide) ?_
  refine rb_newi (n := 117) (len := 22) B hw sh_117 rfl (by decide) (Nat.le_of_ble_eq_true rfl) (Nat.le_of_ble_eq_true rfl) dX12_init_352 (fun H hw => ?_)
  refine W.widen (k := 31) (n := 9786) (Nat.le_of_ble_eq_true rfl) (Nat.le_of_ble_eq_true rfl) ?_
  refine rb_putF (q := 117) B hN hw (by decide) sh_86 fd_12_50 tyX12_ok nmX12 ⟨rfl, rfl⟩ (by decide) (mRt_a _) lf_X12_165 dX12_init_354 (fun H locs hw => ?_)
  refine lv_aload_n hx hb dX12_init_357 rfl (lv_at hl 0 rfl) ?_
  refine lv_sipush (v := mI 5280) hx hb dX12_init_358 (by decide) ?_
  refine rb_newi (n := 118) (len := 5280) B hw sh_118 rfl (by decide) (Nat.le_of_ble_eq_true rfl) (Nat.le_of_ble_eq_true rfl) dX12_init_361 (fun H hw => ?_)
  refine W.widen (k := 32) (n := 15066) (Nat.le_of_ble_eq_true rfl) (Nat.le_of_ble_eq_true rfl) ?_
  refine rb_putF (q := 118) B hN hw (by decide) sh_86 fd_12_51 tyX12_ok nmX12 ⟨rfl, rfl⟩ (by decide) (mRt_a _) lf_X12_168 dX12_init_363 (fun H locs hw => ?_)
  refine lv_aload_n hx hb dX12_init_366 rfl (lv_at hl 0 rfl) ?_
  refine lv_iconst (v := mI 0) hx hb dX12_init_367 rfl ?_
  refine rb_puti 0 B hw (by decide) sh_86 fd_12_52 fp_12_52 rfl rfl lf_X12_171 dX12_init_368 (fun H locs hw => ?_)
  refine lv_aload_n hx hb dX12_init_371 rfl (lv_at hl 0 rfl) ?_
  refine lv_iconst (v := mI 0) hx hb dX12_init_372 rfl ?_
  refine rb_puti 0 B hw (by decide) sh_86 fd_12_53 fp_12_53 rfl rfl lf_X12_174 dX12_init_373 (fun H locs hw => ?_)
  refine lv_aload_n hx hb dX12_init_376 rfl (lv_at hl 0 rfl) ?_
  refine lv_lconst (v := mL 1) hx hb dX12_init_377 (by decide) ?_
  refine rb_putl 1 B hw (by decide) sh_86 fd_12_54 fp_12_54 rfl rfl lf_X12_177 dX12_init_378 (fun H locs hw => ?_)
  refine lv_aload_n hx hb dX12_init_381 rfl (lv_at hl 0 rfl) ?_
  refine lv_sipush (v := mI 500) hx hb dX12_init_382 (by decide) ?_
  refine rb_newl (n := 119) (len := 500) B hw sh_119 rfl (by decide) (Nat.le_of_ble_eq_true rfl) (Nat.le_of_ble_eq_true rfl) dX12_init_385 (fun H hw => ?_)
  refine W.widen (k := 33) (n := 15566) (Nat.le_of_ble_eq_true rfl) (Nat.le_of_ble_eq_true rfl) ?_
  refine rb_putF (q := 119) B hN hw (by decide) sh_86 fd_12_55 tyX12_ok nmX12 ⟨rfl, rfl⟩ (by decide) (mRt_a _) lf_X12_180 dX12_init_387 (fun H locs hw => ?_)
  refine lv_aload_n hx hb dX12_init_390 rfl (lv_at hl 0 rfl) ?_
  refine lv_bipush (v := mI 12) hx hb dX12_init_391 (by decide) ?_
  refine rb_newi (n := 120) (len := 12) B hw sh_120 rfl (by decide) (Nat.le_of_ble_eq_true rfl) (Nat.le_of_ble_eq_true rfl) dX12_init_393 (fun H hw => ?_)
  refine W.widen (k := 34) (n := 15578) (Nat.le_of_ble_eq_true rfl) (Nat.le_of_ble_eq_true rfl) ?_
  refine rb_putF (q := 120) B hN hw (by decide) sh_86 fd_12_56 tyX12_ok nmX12 ⟨rfl, rfl⟩ (by decide) (mRt_a _) lf_X12_183 dX12_init_395 (fun H locs hw => ?_)
  refine lv_aload_n hx hb dX12_init_398 rfl (lv_at hl 0 rfl) ?_
  refine lv_iconst (v := mI (-1)) hx hb dX12_init_399 rfl ?_
  refine rb_puti (-1) B hw (by decide) sh_86 fd_12_57 fp_12_57 rfl rfl lf_X12_186 dX12_init_400 (fun H locs hw => ?_)
  refine lv_aload_n hx hb dX12_init_403 rfl (lv_at hl 0 rfl) ?_
  refine lv_iconst (v := mI 0) hx hb dX12_init_404 rfl ?_
  refine rb_puti 0 B hw (by decide) sh_86 fd_12_58 fp_12_58 rfl rfl lf_X12_189 dX12_init_405 (fun H locs hw => ?_)
  refine lv_aload_n hx hb dX12_init_408 rfl (lv_at hl 0 rfl) ?_
  refine lv_iconst (v := mI 0) hx hb dX12_init_409 rfl ?_
  refine rb_puti 0 B hw (by decide) sh_86 fd_12_59 fp_12_59 rfl rfl lf_X12_192 dX12_init_410 (fun H locs hw => ?_)
  refine lv_aload_n hx hb dX12_init_413 rfl (lv_at hl 0 rfl) ?_
  refine lv_iconst (v := mI (-1)) hx hb dX12_init_414 rfl ?_
  refine rb_puti (-1) B hw (by decide) sh_86 fd_12_60 fp_12_60 rfl rfl lf_X12_195 dX12_init_415 (fun H locs hw => ?_)
  refine lv_aload_n hx hb dX12_init_418 rfl (lv_at hl 0 rfl) ?_
  refine lv_iconst (v := mI 0) hx hb dX12_init_419 rfl ?_
  refine rb_puti 0 B hw (by decide) sh_86 fd_12_61 fp_12_61 rfl rfl lf_X12_198 dX12_init_420 (fun H locs hw => ?_)
  refine lv_aload_n hx hb dX12_init_423 rfl (lv_at hl 0 rfl) ?_
  refine lv_iconst (v := mI 0) hx hb dX12_init_424 rfl ?_
  refine rb_puti 0 B hw (by decide) sh_86 fd_12_62 fp_12_62 rfl rfl lf_X12_201 dX12_init_425 (fun H locs hw => ?_)
  refine lv_aload_n hx hb dX12_init_428 rfl (lv_at hl 0 rfl) ?_
  refine lv_iconst (v := mI 0) hx hb dX12_init_429 rfl ?_
  refine rb_puti 0 B hw (by decide) sh_86 fd_12_63 fp_12_63 rfl rfl lf_X12_204 dX12_init_430 (fun H locs hw => ?_)
  refine lv_aload_n hx hb dX12_init_433 rfl (lv_at hl 0 rfl) ?_
  refine lv_iconst (v := mI 0) hx hb dX12_init_434 rfl ?_
  refine rb_puti 0 B hw (by decide) sh_86 fd_12_64 fp_12_64 rfl rfl lf_X12_207 dX12_init_435 (fun H locs hw => ?_)
  refine lv_aload_n hx hb dX12_init_438 rfl (lv_at hl 0 rfl) ?_
  refine lv_sipush (v := mI 324) hx hb dX12_init_439 (by decide) ?_
  refine rb_newi (n := 121) (len := 324) B hw sh_121 rfl (by decide) (Nat.le_of_ble_eq_true rfl) (Nat.le_of_ble_eq_true rfl) dX12_init_442 (fun H hw => ?_)
  refine W.widen (k := 35) (n := 15902) (Nat.le_of_ble_eq_true rfl) (Nat.le_of_ble_eq_true rfl) ?_
  refine rb_putF (q := 121) B hN hw (by decide) sh_86 fd_12_65 tyX12_ok nmX12 ⟨rfl, rfl⟩ (by decide) (mRt_a _) lf_X12_210 dX12_init_444 (fun H locs hw => ?_)
  refine lv_aload_n hx hb dX12_init_447 rfl (lv_at hl 0 rfl) ?_
  refine lv_iconst (v := mI 0) hx hb dX12_init_448 rfl ?_
  refine rb_puti 0 B hw (by decide) sh_86 fd_12_66 fp_12_66 rfl rfl lf_X12_213 dX12_init_449 (fun H locs hw => ?_)
  refine lv_aload_n hx hb dX12_init_452 rfl (lv_at hl 0 rfl) ?_
  refine lv_bipush (v := mI 16) hx hb dX12_init_453 (by decide) ?_
  refine rb_newi (n := 122) (len := 16) B hw sh_122 rfl (by decide) (Nat.le_of_ble_eq_true rfl) (Nat.le_of_ble_eq_true rfl) dX12_init_455 (fun H hw => ?_)
  refine W.widen (k := 36) (n := 15918) (Nat.le_of_ble_eq_true rfl) (Nat.le_of_ble_eq_true rfl) ?_
  refine rb_putF (q := 122) B hN hw (by decide) sh_86 fd_12_67 tyX12_ok nmX12 ⟨rfl, rfl⟩ (by decide) (mRt_a _) lf_X12_216 dX12_init_457 (fun H locs hw => ?_)
  refine lv_aload_n hx hb dX12_init_460 rfl (lv_at hl 0 rfl) ?_
  refine lv_bipush (v := mI 16) hx hb dX12_init_461 (by decide) ?_
  refine rb_newi (n := 123) (len := 16) B hw sh_123 rfl (by decide) (Nat.le_of_ble_eq_true rfl) (Nat.le_of_ble_eq_true rfl) dX12_init_463 (fun H hw => ?_)
  refine W.widen (k := 37) (n := 15934) (Nat.le_of_ble_eq_true rfl) (Nat.le_of_ble_eq_true rfl) ?_
  refine rb_putF (q := 123) B hN hw (by decide) sh_86 fd_12_68 tyX12_ok nmX12 ⟨rfl, rfl⟩ (by decide) (mRt_a _) lf_X12_219 dX12_init_465 (fun H locs hw => ?_)
  refine lv_aload_n hx hb dX12_init_468 rfl (lv_at hl 0 rfl) ?_
  refine lv_sipush (v := mI 410) hx hb dX12_init_469 (by decide) ?_
  refine rb_newi (n := 124) (len := 410) B hw sh_124 rfl (by decide) (Nat.le_of_ble_eq_true rfl) (Nat.le_of_ble_eq_true rfl) dX12_init_472 (fun H hw => ?_)
  refine W.widen (k := 38) (n := 16344) (Nat.le_of_ble_eq_true rfl) (Nat.le_of_ble_eq_true rfl) ?_
  refine rb_putF (q := 124) B hN hw (by decide) sh_86 fd_12_69 tyX12_ok nmX12 ⟨rfl, rfl⟩ (by decide) (mRt_a _) lf_X12_222 dX12_init_474 (fun H locs hw => ?_)
  refine lv_aload_n hx hb dX12_init_477 rfl (lv_at hl 0 rfl) ?_
  refine lv_bipush (v := mI 60) hx hb dX12_init_478 (by decide) ?_
  refine rb_newi (n := 125) (len := 60) B hw sh_125 rfl (by decide) (Nat.le_of_ble_eq_true rfl) (Nat.le_of_ble_eq_true rfl) dX12_init_480 (fun H hw => ?_)
  refine W.widen (k := 39) (n := 16404) (Nat.le_of_ble_eq_true rfl) (Nat.le_of_ble_eq_true rfl) ?_
  refine rb_putF (q := 125) B hN hw (by decide) sh_86 fd_12_70 tyX12_ok nmX12 ⟨rfl, rfl⟩ (by decide) (mRt_a _) lf_X12_225 dX12_init_482 (fun H locs hw => ?_)
  refine lv_aload_n hx hb dX12_init_485 rfl (lv_at hl 0 rfl) ?_
  refine lv_iconst (v := mI 0) hx hb dX12_init_486 rfl ?_
  refine rb_puti 0 B hw (by decide) sh_86 fd_12_71 fp_12_71 rfl rfl lf_X12_228 dX12_init_487 (fun H locs hw => ?_)
  refine lv_iconst (v := mI 0) hx hb dX12_init_490 rfl ?_
  refine lv_istore_n (lv' := [(1, .int (mI 0)), (0, .ref (mAd bs 86))]) hx hb dX12_init_491 rfl hl (by decide) rfl (fun ls hl => ?_)
  refine lv_iload_n hx hb dX12_init_492 rfl (lv_at hl 0 rfl) ?_
  refine lv_iconst (v := mI 4) hx hb dX12_init_493 rfl ?_
  refine lv_icmp_ge (tgt := 510) hx hb dX12_init_494 (by decide) (fun q => absurd q (by decide)) (fun _ => ?_)
  refine lv_aload_n hx hb dX12_init_497 rfl (lv_at hl 1 rfl) ?_
  refine rb_getr (q := 98) B hw (by decide) sh_86 fd_12_24 (by decide) rfl lf_X12_84 dX12_init_498 ?_
  refine lv_iload_n hx hb dX12_init_501 rfl (lv_at hl 0 rfl) ?_
  refine lv_iconst (v := mI (-1)) hx hb dX12_init_502 rfl ?_
  refine rb_iast (i := 0) (z := (-1)) B hw (by decide) sh_98 (by decide) dX12_init_503 (fun H locs hw => ?_)
  refine lv_iinc (v := mI (0 + 1)) (lv' := [(1, .int (mI (0 + 1))), (0, .ref (mAd bs 86))]) hx hb dX12_init_504 hl (k := 0) rfl (mI_add _ _) (by decide) rfl (fun ls hl => ?_)
  refine lv_goto (tgt := 492) hx hb dX12_init_507 (by decide) ?_
  refine lv_iload_n hx hb dX12_init_492 rfl (lv_at hl 0 rfl) ?_
  refine lv_iconst (v := mI 4) hx hb dX12_init_493 rfl ?_
  refine lv_icmp_ge (tgt := 510) hx hb dX12_init_494 (by decide) (fun q => absurd q (by decide)) (fun _ => ?_)
  refine lv_aload_n hx hb dX12_init_497 rfl (lv_at hl 1 rfl) ?_
  refine rb_getr (q := 98) B hw (by decide) sh_86 fd_12_24 (by decide) rfl lf_X12_84 dX12_init_498 ?_
  refine lv_iload_n hx hb dX12_init_501 rfl (lv_at hl 0 rfl) ?_
  refine lv_iconst (v := mI (-1)) hx hb dX12_init_502 rfl ?_
  refine rb_iast (i := (0 + 1)) (z := (-1)) B hw (by decide) sh_98 (by decide) dX12_init_503 (fun H locs hw => ?_)
  refine lv_iinc (v := mI ((0 + 1) + 1)) (lv' := [(1, .int (mI ((0 + 1) + 1))), (0, .ref (mAd bs 86))]) hx hb dX12_init_504 hl (k := 0) rfl (mI_add _ _) (by decide) rfl (fun ls hl => ?_)
  refine lv_goto (tgt := 492) hx hb dX12_init_507 (by decide) ?_
  refine lv_iload_n hx hb dX12_init_492 rfl (lv_at hl 0 rfl) ?_
  refine lv_iconst (v := mI 4) hx hb dX12_init_493 rfl ?_
  refine lv_icmp_ge (tgt := 510) hx hb dX12_init_494 (by decide) (fun q => absurd q (by decide)) (fun _ => ?_)
  refine lv_aload_n hx hb dX12_init_497 rfl (lv_at hl 1 rfl) ?_
  refine rb_getr (q := 98) B hw (by decide) sh_86 fd_12_24 (by decide) rfl lf_X12_84 dX12_init_498 ?_
  refine lv_iload_n hx hb dX12_init_501 rfl (lv_at hl 0 rfl) ?_
  refine lv_iconst (v := mI (-1)) hx hb dX12_init_502 rfl ?_
  refine rb_iast (i := ((0 + 1) + 1)) (z := (-1)) B hw (by decide) sh_98 (by decide) dX12_init_503 (fun H locs hw => ?_)
  refine lv_iinc (v := mI (((0 + 1) + 1) + 1)) (lv' := [(1, .int (mI (((0 + 1) + 1) + 1))), (0, .ref (mAd bs 86))]) hx hb dX12_init_504 hl (k := 0) rfl (mI_add _ _) (by decide) rfl (fun ls hl => ?_)
  refine lv_goto (tgt := 492) hx hb dX12_init_507 (by decide) ?_
  refine lv_iload_n hx hb dX12_init_492 rfl (lv_at hl 0 rfl) ?_
  refine lv_iconst (v := mI 4) hx hb dX12_init_493 rfl ?_
  refine lv_icmp_ge (tgt := 510) hx hb dX12_init_494 (by decide) (fun q => absurd q (by decide)) (fun _ => ?_)
  refine lv_aload_n hx hb dX12_init_497 rfl (lv_at hl 1 rfl) ?_
  refine rb_getr (q := 98) B hw (by decide) sh_86 fd_12_24 (by decide) rfl lf_X12_84 dX12_init_498 ?_
  refine lv_iload_n hx hb dX12_init_501 rfl (lv_at hl 0 rfl) ?_
  refine lv_iconst (v := mI (-1)) hx hb dX12_init_502 rfl ?_
  refine rb_iast (i := (((0 + 1) + 1) + 1)) (z := (-1)) B hw (by decide) sh_98 (by decide) dX12_init_503 (fun H locs hw => ?_)
  refine lv_iinc (v := mI ((((0 + 1) + 1) + 1) + 1)) (lv' := [(1, .int (mI ((((0 + 1) + 1) + 1) + 1))), (0, .ref (mAd bs 86))]) hx hb dX12_init_504 hl (k := 0) rfl (mI_add _ _) (by decide) rfl (fun ls hl => ?_)
  refine lv_goto (tgt := 492) hx hb dX12_init_507 (by decide) ?_
  refine lv_iload_n hx hb dX12_init_492 rfl (lv_at hl 0 rfl) ?_
  refine lv_iconst (v := mI 4) hx hb dX12_init_493 rfl ?_
  refine lv_icmp_ge (tgt := 510) hx hb dX12_init_494 (by decide) (fun _ => ?_) (fun q => absurd (by decide) q)
  refine lv_iconst (v := mI 0) hx hb dX12_init_510 rfl ?_
  refine lv_istore_n (lv' := [(1, .int (mI 0)), (0, .ref (mAd bs 86))]) hx hb dX12_init_511 rfl hl (by decide) rfl (fun ls hl => ?_)
  refine lv_iload_n hx hb dX12_init_512 rfl (lv_at hl 0 rfl) ?_
  refine lv_iconst (v := mI 2) hx hb dX12_init_513 rfl ?_
  refine lv_icmp_ge (tgt := 528) hx hb dX12_init_514 (by decide) (fun q => absurd q (by decide)) (fun _ => ?_)
  refine lv_aload_n hx hb dX12_init_517 rfl (lv_at hl 1 rfl) ?_
  refine lv_iload_n hx hb dX12_init_518 rfl (lv_at hl 0 rfl) ?_
  refine rb_cv (o := 86) (rest := []) [.int (mI 0)] B hw (cb_dflt0 l D cy bs qs qv qf _ rfl) (by decide) sh_86 rfl (by decide) rfl km_X12_isDefault kv_X12_isDefault lm_X12_231 dX12_init_519 hl.1 rfl rfl (Nat.le_of_ble_eq_true rfl) ⟨by decide, by decide⟩ ⟨Nat.le_of_ble_eq_true rfl, Nat.le_of_ble_eq_true rfl⟩ (fun H locs hw => ?_)
  refine lv_iinc (v := mI (0 + 1)) (lv' := [(1, .int (mI (0 + 1))), (0, .ref (mAd bs 86))]) hx hb dX12_init_522 hl (k := 0) rfl (mI_add _ _) (by decide) rfl (fun ls hl => ?_)
  refine lv_goto (tgt := 512) hx hb dX12_init_525 (by decide) ?_
  refine lv_iload_n hx hb dX12_init_512 rfl (lv_at hl 0 rfl) ?_
  refine lv_iconst (v := mI 2) hx hb dX12_init_513 rfl ?_
  refine lv_icmp_ge (tgt := 528) hx hb dX12_init_514 (by decide) (fun q => absurd q (by decide)) (fun _ => ?_)
  refine lv_aload_n hx hb dX12_init_517 rfl (lv_at hl 1 rfl) ?_
  refine lv_iload_n hx hb dX12_init_518 rfl (lv_at hl 0 rfl) ?_
  refine rb_cv (o := 86) (rest := []) [.int (mI (0 + 1))] B hw (cb_dflt1 l D cy bs qs qv qf _ rfl) (by decide) sh_86 rfl (by decide) rfl km_X12_isDefault kv_X12_isDefault lm_X12_231 dX12_init_519 hl.1 rfl rfl (Nat.le_of_ble_eq_true rfl) ⟨by decide, by decide⟩ ⟨Nat.le_of_ble_eq_true rfl, Nat.le_of_ble_eq_true rfl⟩ (fun H locs hw => ?_)
  refine lv_iinc (v := mI ((0 + 1) + 1)) (lv' := [(1, .int (mI ((0 + 1) + 1))), (0, .ref (mAd bs 86))]) hx hb dX12_init_522 hl (k := 0) rfl (mI_add _ _) (by decide) rfl (fun ls hl => ?_)
  refine lv_goto (tgt := 512) hx hb dX12_init_525 (by decide) ?_
  refine lv_iload_n hx hb dX12_init_512 rfl (lv_at hl 0 rfl) ?_
  refine lv_iconst (v := mI 2) hx hb dX12_init_513 rfl ?_
  refine lv_icmp_ge (tgt := 528) hx hb dX12_init_514 (by decide) (fun _ => ?_) (fun q => absurd (by decide) q)
  exact rb_vret B hw dX12_init_528 rfl (Nat.le_of_ble_eq_true rfl) (Nat.le_of_ble_eq_true rfl) rfl
