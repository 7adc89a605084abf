/-! the words of the tables, by their places (written by mk_words.py) -/
theorem lw_at {w : Cond} (i : Nat) (h : tables_1[i]? = some w) (hg : goodWord w = true) : w ∈ lw_g := lw_g_in (List.mem_append_right _ (List.mem_of_getElem? h)) hg
theorem lw_sl {q : MethodName × Nat} (i : Nat) (h : lw_privs[i]? = some q) : Cond.selects q.1.cls q.1 q.1 ∈ lw_g := lw_g_in (List.mem_append_left _ (List.mem_map.mpr ⟨q, List.mem_of_getElem? h, rfl⟩)) rfl
theorem lw_rows {ws : List Cond} (ps : List Nat) (h : ws = ps.filterMap (fun i => tables_1[i]?)) (hg : ws.all goodWord = true) : ∀ w ∈ ws, w ∈ lw_g := by
  intro w hw
  have h1 := List.all_eq_true.mp hg w hw
  rw [h] at hw
  obtain ⟨i, -, hi⟩ := List.mem_filterMap.mp hw
  exact lw_at i hi h1
theorem in_X0 : ∀ w ∈ u_ws RX0 TX0 4, w ∈ lw_g := lw_rows [342, 344, 346, 348] (by decide +kernel) (by decide +kernel)
theorem fd_0_0 : mFd 0 0 RX0 TX0 4 := ⟨rfl, in_X0, by decide, by decide, by decide⟩
theorem fd_0_1 : mFd 0 1 RX0 TX0 4 := ⟨rfl, in_X0, by decide, by decide, by decide⟩
theorem fd_0_2 : mFd 0 2 RX0 TX0 4 := ⟨rfl, in_X0, by decide, by decide, by decide⟩
theorem fd_0_3 : mFd 0 3 RX0 TX0 4 := ⟨rfl, in_X0, by decide, by decide, by decide⟩
theorem fp_0_3 : mFp 0 3 TX0 4 tyX0 := ⟨tyX0_ok, nmX0, rfl⟩
theorem in_X1 : ∀ w ∈ u_ws RX1 TX1 3, w ∈ lw_g := lw_rows [252, 254, 256] (by decide +kernel) (by decide +kernel)
theorem fd_1_0 : mFd 1 0 RX1 TX1 3 := ⟨rfl, in_X1, by decide, by decide, by decide⟩
theorem fd_1_1 : mFd 1 1 RX1 TX1 3 := ⟨rfl, in_X1, by decide, by decide, by decide⟩
theorem fp_1_1 : mFp 1 1 TX1 3 tyX1 := ⟨tyX1_ok, nmX1, rfl⟩
theorem fd_1_2 : mFd 1 2 RX1 TX1 3 := ⟨rfl, in_X1, by decide, by decide, by decide⟩
theorem fp_1_2 : mFp 1 2 TX1 3 tyX1 := ⟨tyX1_ok, nmX1, rfl⟩
theorem in_X2 : ∀ w ∈ u_ws RX2 TX2 2, w ∈ lw_g := lw_rows [285, 287] (by decide +kernel) (by decide +kernel)
theorem fd_2_0 : mFd 2 0 RX2 TX2 2 := ⟨rfl, in_X2, by decide, by decide, by decide⟩
theorem fd_2_1 : mFd 2 1 RX2 TX2 2 := ⟨rfl, in_X2, by decide, by decide, by decide⟩
theorem in_X3 : ∀ w ∈ u_ws RX3 TX3 5, w ∈ lw_g := lw_rows [392, 394, 396, 398, 400] (by decide +kernel) (by decide +kernel)
theorem fd_3_0 : mFd 3 0 RX3 TX3 5 := ⟨rfl, in_X3, by decide, by decide, by decide⟩
theorem fd_3_1 : mFd 3 1 RX3 TX3 5 := ⟨rfl, in_X3, by decide, by decide, by decide⟩
theorem fd_3_2 : mFd 3 2 RX3 TX3 5 := ⟨rfl, in_X3, by decide, by decide, by decide⟩
theorem fp_3_2 : mFp 3 2 TX3 5 tyX3 := ⟨tyX3_ok, nmX3, rfl⟩
theorem fd_3_3 : mFd 3 3 RX3 TX3 5 := ⟨rfl, in_X3, by decide, by decide, by decide⟩
theorem fp_3_3 : mFp 3 3 TX3 5 tyX3 := ⟨tyX3_ok, nmX3, rfl⟩
theorem fd_3_4 : mFd 3 4 RX3 TX3 5 := ⟨rfl, in_X3, by decide, by decide, by decide⟩
theorem fp_3_4 : mFp 3 4 TX3 5 tyX3 := ⟨tyX3_ok, nmX3, rfl⟩
theorem in_X4 : ∀ w ∈ u_ws RX4 TX4 3, w ∈ lw_g := lw_rows [414, 416, 418] (by decide +kernel) (by decide +kernel)
theorem fd_4_0 : mFd 4 0 RX4 TX4 3 := ⟨rfl, in_X4, by decide, by decide, by decide⟩
theorem fd_4_1 : mFd 4 1 RX4 TX4 3 := ⟨rfl, in_X4, by decide, by decide, by decide⟩
theorem fp_4_1 : mFp 4 1 TX4 3 tyX4 := ⟨tyX4_ok, nmX4, rfl⟩
theorem fd_4_2 : mFd 4 2 RX4 TX4 3 := ⟨rfl, in_X4, by decide, by decide, by decide⟩
theorem in_X5 : ∀ w ∈ u_ws RX5 TX5 15, w ∈ lw_g := lw_rows [104, 106, 108, 110, 112, 114, 116, 118, 120, 122, 124, 126, 128, 130, 132] (by decide +kernel) (by decide +kernel)
theorem fd_5_0 : mFd 5 0 RX5 TX5 15 := ⟨rfl, in_X5, by decide, by decide, by decide⟩
theorem fd_5_1 : mFd 5 1 RX5 TX5 15 := ⟨rfl, in_X5, by decide, by decide, by decide⟩
theorem fd_5_2 : mFd 5 2 RX5 TX5 15 := ⟨rfl, in_X5, by decide, by decide, by decide⟩
theorem fd_5_3 : mFd 5 3 RX5 TX5 15 := ⟨rfl, in_X5, by decide, by decide, by decide⟩
theorem fd_5_4 : mFd 5 4 RX5 TX5 15 := ⟨rfl, in_X5, by decide, by decide, by decide⟩
theorem fp_5_4 : mFp 5 4 TX5 15 tyX5 := ⟨tyX5_ok, nmX5, rfl⟩
theorem fd_5_5 : mFd 5 5 RX5 TX5 15 := ⟨rfl, in_X5, by decide, by decide, by decide⟩
theorem fp_5_5 : mFp 5 5 TX5 15 tyX5 := ⟨tyX5_ok, nmX5, rfl⟩
theorem fd_5_6 : mFd 5 6 RX5 TX5 15 := ⟨rfl, in_X5, by decide, by decide, by decide⟩
theorem fp_5_6 : mFp 5 6 TX5 15 tyX5 := ⟨tyX5_ok, nmX5, rfl⟩
theorem fd_5_7 : mFd 5 7 RX5 TX5 15 := ⟨rfl, in_X5, by decide, by decide, by decide⟩
theorem fp_5_7 : mFp 5 7 TX5 15 tyX5 := ⟨tyX5_ok, nmX5, rfl⟩
theorem fd_5_8 : mFd 5 8 RX5 TX5 15 := ⟨rfl, in_X5, by decide, by decide, by decide⟩
theorem fp_5_8 : mFp 5 8 TX5 15 tyX5 := ⟨tyX5_ok, nmX5, rfl⟩
theorem fd_5_9 : mFd 5 9 RX5 TX5 15 := ⟨rfl, in_X5, by decide, by decide, by decide⟩
theorem fp_5_9 : mFp 5 9 TX5 15 tyX5 := ⟨tyX5_ok, nmX5, rfl⟩
theorem fd_5_10 : mFd 5 10 RX5 TX5 15 := ⟨rfl, in_X5, by decide, by decide, by decide⟩
theorem fp_5_10 : mFp 5 10 TX5 15 tyX5 := ⟨tyX5_ok, nmX5, rfl⟩
theorem fd_5_11 : mFd 5 11 RX5 TX5 15 := ⟨rfl, in_X5, by decide, by decide, by decide⟩
theorem fp_5_11 : mFp 5 11 TX5 15 tyX5 := ⟨tyX5_ok, nmX5, rfl⟩
theorem fd_5_12 : mFd 5 12 RX5 TX5 15 := ⟨rfl, in_X5, by decide, by decide, by decide⟩
theorem fp_5_12 : mFp 5 12 TX5 15 tyX5 := ⟨tyX5_ok, nmX5, rfl⟩
theorem fd_5_13 : mFd 5 13 RX5 TX5 15 := ⟨rfl, in_X5, by decide, by decide, by decide⟩
theorem fp_5_13 : mFp 5 13 TX5 15 tyX5 := ⟨tyX5_ok, nmX5, rfl⟩
theorem fd_5_14 : mFd 5 14 RX5 TX5 15 := ⟨rfl, in_X5, by decide, by decide, by decide⟩
theorem fp_5_14 : mFp 5 14 TX5 15 tyX5 := ⟨tyX5_ok, nmX5, rfl⟩
theorem in_X6 : ∀ w ∈ u_ws RX6 TX6 3, w ∈ lw_g := lw_rows [263, 265, 267] (by decide +kernel) (by decide +kernel)
theorem fd_6_0 : mFd 6 0 RX6 TX6 3 := ⟨rfl, in_X6, by decide, by decide, by decide⟩
theorem fd_6_1 : mFd 6 1 RX6 TX6 3 := ⟨rfl, in_X6, by decide, by decide, by decide⟩
theorem fd_6_2 : mFd 6 2 RX6 TX6 3 := ⟨rfl, in_X6, by decide, by decide, by decide⟩
theorem fp_6_2 : mFp 6 2 TX6 3 tyX6 := ⟨tyX6_ok, nmX6, rfl⟩
theorem in_X7 : ∀ w ∈ u_ws RX7 TX7 2, w ∈ lw_g := lw_rows [41, 43] (by decide +kernel) (by decide +kernel)
theorem fd_7_0 : mFd 7 0 RX7 TX7 2 := ⟨rfl, in_X7, by decide, by decide, by decide⟩
theorem fd_7_1 : mFd 7 1 RX7 TX7 2 := ⟨rfl, in_X7, by decide, by decide, by decide⟩
theorem fp_7_1 : mFp 7 1 TX7 2 tyX7 := ⟨tyX7_ok, nmX7, rfl⟩
theorem in_X8 : ∀ w ∈ u_ws RX8 TX8 12, w ∈ lw_g := lw_rows [217, 219, 221, 223, 225, 227, 229, 231, 233, 235, 237, 239] (by decide +kernel) (by decide +kernel)
theorem fd_8_0 : mFd 8 0 RX8 TX8 12 := ⟨rfl, in_X8, by decide, by decide, by decide⟩
theorem fd_8_1 : mFd 8 1 RX8 TX8 12 := ⟨rfl, in_X8, by decide, by decide, by decide⟩
theorem fd_8_2 : mFd 8 2 RX8 TX8 12 := ⟨rfl, in_X8, by decide, by decide, by decide⟩
theorem fd_8_3 : mFd 8 3 RX8 TX8 12 := ⟨rfl, in_X8, by decide, by decide, by decide⟩
theorem fd_8_4 : mFd 8 4 RX8 TX8 12 := ⟨rfl, in_X8, by decide, by decide, by decide⟩
theorem fd_8_5 : mFd 8 5 RX8 TX8 12 := ⟨rfl, in_X8, by decide, by decide, by decide⟩
theorem fp_8_5 : mFp 8 5 TX8 12 tyX8 := ⟨tyX8_ok, nmX8, rfl⟩
theorem fd_8_6 : mFd 8 6 RX8 TX8 12 := ⟨rfl, in_X8, by decide, by decide, by decide⟩
theorem fp_8_6 : mFp 8 6 TX8 12 tyX8 := ⟨tyX8_ok, nmX8, rfl⟩
theorem fd_8_7 : mFd 8 7 RX8 TX8 12 := ⟨rfl, in_X8, by decide, by decide, by decide⟩
theorem fp_8_7 : mFp 8 7 TX8 12 tyX8 := ⟨tyX8_ok, nmX8, rfl⟩
theorem fd_8_8 : mFd 8 8 RX8 TX8 12 := ⟨rfl, in_X8, by decide, by decide, by decide⟩
theorem fp_8_8 : mFp 8 8 TX8 12 tyX8 := ⟨tyX8_ok, nmX8, rfl⟩
theorem fd_8_9 : mFd 8 9 RX8 TX8 12 := ⟨rfl, in_X8, by decide, by decide, by decide⟩
theorem fp_8_9 : mFp 8 9 TX8 12 tyX8 := ⟨tyX8_ok, nmX8, rfl⟩
theorem fd_8_10 : mFd 8 10 RX8 TX8 12 := ⟨rfl, in_X8, by decide, by decide, by decide⟩
theorem fp_8_10 : mFp 8 10 TX8 12 tyX8 := ⟨tyX8_ok, nmX8, rfl⟩
theorem fd_8_11 : mFd 8 11 RX8 TX8 12 := ⟨rfl, in_X8, by decide, by decide, by decide⟩
theorem fp_8_11 : mFp 8 11 TX8 12 tyX8 := ⟨tyX8_ok, nmX8, rfl⟩
theorem in_X9 : ∀ w ∈ u_ws RX9 TX9 4, w ∈ lw_g := lw_rows [366, 368, 370, 372] (by decide +kernel) (by decide +kernel)
theorem fd_9_0 : mFd 9 0 RX9 TX9 4 := ⟨rfl, in_X9, by decide, by decide, by decide⟩
theorem fd_9_1 : mFd 9 1 RX9 TX9 4 := ⟨rfl, in_X9, by decide, by decide, by decide⟩
theorem fd_9_2 : mFd 9 2 RX9 TX9 4 := ⟨rfl, in_X9, by decide, by decide, by decide⟩
theorem fd_9_3 : mFd 9 3 RX9 TX9 4 := ⟨rfl, in_X9, by decide, by decide, by decide⟩
theorem fp_9_3 : mFp 9 3 TX9 4 tyX9 := ⟨tyX9_ok, nmX9, rfl⟩
theorem in_X10 : ∀ w ∈ u_ws RX10 TX10 8, w ∈ lw_g := lw_rows [313, 315, 317, 319, 321, 323, 325, 327] (by decide +kernel) (by decide +kernel)
theorem fd_10_0 : mFd 10 0 RX10 TX10 8 := ⟨rfl, in_X10, by decide, by decide, by decide⟩
theorem fd_10_1 : mFd 10 1 RX10 TX10 8 := ⟨rfl, in_X10, by decide, by decide, by decide⟩
theorem fd_10_2 : mFd 10 2 RX10 TX10 8 := ⟨rfl, in_X10, by decide, by decide, by decide⟩
theorem fd_10_3 : mFd 10 3 RX10 TX10 8 := ⟨rfl, in_X10, by decide, by decide, by decide⟩
theorem fp_10_3 : mFp 10 3 TX10 8 tyX10 := ⟨tyX10_ok, nmX10, rfl⟩
theorem fd_10_4 : mFd 10 4 RX10 TX10 8 := ⟨rfl, in_X10, by decide, by decide, by decide⟩
theorem fp_10_4 : mFp 10 4 TX10 8 tyX10 := ⟨tyX10_ok, nmX10, rfl⟩
theorem fd_10_5 : mFd 10 5 RX10 TX10 8 := ⟨rfl, in_X10, by decide, by decide, by decide⟩
theorem fp_10_5 : mFp 10 5 TX10 8 tyX10 := ⟨tyX10_ok, nmX10, rfl⟩
theorem fd_10_6 : mFd 10 6 RX10 TX10 8 := ⟨rfl, in_X10, by decide, by decide, by decide⟩
theorem fp_10_6 : mFp 10 6 TX10 8 tyX10 := ⟨tyX10_ok, nmX10, rfl⟩
theorem fd_10_7 : mFd 10 7 RX10 TX10 8 := ⟨rfl, in_X10, by decide, by decide, by decide⟩
theorem fp_10_7 : mFp 10 7 TX10 8 tyX10 := ⟨tyX10_ok, nmX10, rfl⟩
theorem in_X11 : ∀ w ∈ u_ws RX11 TX11 13, w ∈ lw_g := lw_rows [434, 436, 438, 440, 442, 444, 446, 448, 450, 452, 454, 456, 458] (by decide +kernel) (by decide +kernel)
theorem fd_11_0 : mFd 11 0 RX11 TX11 13 := ⟨rfl, in_X11, by decide, by decide, by decide⟩
theorem fd_11_1 : mFd 11 1 RX11 TX11 13 := ⟨rfl, in_X11, by decide, by decide, by decide⟩
theorem fd_11_2 : mFd 11 2 RX11 TX11 13 := ⟨rfl, in_X11, by decide, by decide, by decide⟩
theorem fd_11_3 : mFd 11 3 RX11 TX11 13 := ⟨rfl, in_X11, by decide, by decide, by decide⟩
theorem fd_11_4 : mFd 11 4 RX11 TX11 13 := ⟨rfl, in_X11, by decide, by decide, by decide⟩
theorem fd_11_5 : mFd 11 5 RX11 TX11 13 := ⟨rfl, in_X11, by decide, by decide, by decide⟩
theorem fd_11_6 : mFd 11 6 RX11 TX11 13 := ⟨rfl, in_X11, by decide, by decide, by decide⟩
theorem fd_11_7 : mFd 11 7 RX11 TX11 13 := ⟨rfl, in_X11, by decide, by decide, by decide⟩
theorem fd_11_8 : mFd 11 8 RX11 TX11 13 := ⟨rfl, in_X11, by decide, by decide, by decide⟩
theorem fp_11_8 : mFp 11 8 TX11 13 tyX11 := ⟨tyX11_ok, nmX11, rfl⟩
theorem fd_11_9 : mFd 11 9 RX11 TX11 13 := ⟨rfl, in_X11, by decide, by decide, by decide⟩
theorem fp_11_9 : mFp 11 9 TX11 13 tyX11 := ⟨tyX11_ok, nmX11, rfl⟩
theorem fd_11_10 : mFd 11 10 RX11 TX11 13 := ⟨rfl, in_X11, by decide, by decide, by decide⟩
theorem fp_11_10 : mFp 11 10 TX11 13 tyX11 := ⟨tyX11_ok, nmX11, rfl⟩
theorem fd_11_11 : mFd 11 11 RX11 TX11 13 := ⟨rfl, in_X11, by decide, by decide, by decide⟩
theorem fp_11_11 : mFp 11 11 TX11 13 tyX11 := ⟨tyX11_ok, nmX11, rfl⟩
theorem fd_11_12 : mFd 11 12 RX11 TX11 13 := ⟨rfl, in_X11, by decide, by decide, by decide⟩
theorem fp_11_12 : mFp 11 12 TX11 13 tyX11 := ⟨tyX11_ok, nmX11, rfl⟩
theorem in_X12 : ∀ w ∈ u_ws RX12 TX12 72, w ∈ lw_g := lw_rows [1237, 1239, 1241, 1243, 1245, 1247, 1249, 1251, 1253, 1255, 1257, 1259, 1261, 1263, 1265, 1267, 1269, 1271, 1273, 1275, 1277, 1279, 1281, 1283, 1285, 1287, 1289, 1291, 1293, 1295, 1297, 1299, 1301, 1303, 1305, 1307, 1309, 1311, 1313, 1315, 1317, 1319, 1321, 1323, 1325, 1327, 1329, 1331, 1333, 1335, 1337, 1339, 1341, 1343, 1345, 1347, 1349, 1351, 1353, 1355, 1357, 1359, 1361, 1363, 1365, 1367, 1369, 1371, 1373, 1375, 1377, 1379] (by decide +kernel) (by decide +kernel)
theorem fd_12_0 : mFd 12 0 RX12 TX12 72 := ⟨rfl, in_X12, by decide, by decide, by decide⟩
theorem fd_12_1 : mFd 12 1 RX12 TX12 72 := ⟨rfl, in_X12, by decide, by decide, by decide⟩
theorem fp_12_1 : mFp 12 1 TX12 72 tyX12 := ⟨tyX12_ok, nmX12, rfl⟩
theorem fd_12_2 : mFd 12 2 RX12 TX12 72 := ⟨rfl, in_X12, by decide, by decide, by decide⟩
theorem fp_12_2 : mFp 12 2 TX12 72 tyX12 := ⟨tyX12_ok, nmX12, rfl⟩
theorem fd_12_3 : mFd 12 3 RX12 TX12 72 := ⟨rfl, in_X12, by decide, by decide, by decide⟩
theorem fp_12_3 : mFp 12 3 TX12 72 tyX12 := ⟨tyX12_ok, nmX12, rfl⟩
theorem fd_12_4 : mFd 12 4 RX12 TX12 72 := ⟨rfl, in_X12, by decide, by decide, by decide⟩
theorem fp_12_4 : mFp 12 4 TX12 72 tyX12 := ⟨tyX12_ok, nmX12, rfl⟩
theorem fd_12_5 : mFd 12 5 RX12 TX12 72 := ⟨rfl, in_X12, by decide, by decide, by decide⟩
theorem fp_12_5 : mFp 12 5 TX12 72 tyX12 := ⟨tyX12_ok, nmX12, rfl⟩
theorem fd_12_6 : mFd 12 6 RX12 TX12 72 := ⟨rfl, in_X12, by decide, by decide, by decide⟩
theorem fp_12_6 : mFp 12 6 TX12 72 tyX12 := ⟨tyX12_ok, nmX12, rfl⟩
theorem fd_12_7 : mFd 12 7 RX12 TX12 72 := ⟨rfl, in_X12, by decide, by decide, by decide⟩
theorem fp_12_7 : mFp 12 7 TX12 72 tyX12 := ⟨tyX12_ok, nmX12, rfl⟩
theorem fd_12_8 : mFd 12 8 RX12 TX12 72 := ⟨rfl, in_X12, by decide, by decide, by decide⟩
theorem fp_12_8 : mFp 12 8 TX12 72 tyX12 := ⟨tyX12_ok, nmX12, rfl⟩
theorem fd_12_9 : mFd 12 9 RX12 TX12 72 := ⟨rfl, in_X12, by decide, by decide, by decide⟩
theorem fp_12_9 : mFp 12 9 TX12 72 tyX12 := ⟨tyX12_ok, nmX12, rfl⟩
theorem fd_12_10 : mFd 12 10 RX12 TX12 72 := ⟨rfl, in_X12, by decide, by decide, by decide⟩
theorem fp_12_10 : mFp 12 10 TX12 72 tyX12 := ⟨tyX12_ok, nmX12, rfl⟩
theorem fd_12_11 : mFd 12 11 RX12 TX12 72 := ⟨rfl, in_X12, by decide, by decide, by decide⟩
theorem fp_12_11 : mFp 12 11 TX12 72 tyX12 := ⟨tyX12_ok, nmX12, rfl⟩
theorem fd_12_12 : mFd 12 12 RX12 TX12 72 := ⟨rfl, in_X12, by decide, by decide, by decide⟩
theorem fp_12_12 : mFp 12 12 TX12 72 tyX12 := ⟨tyX12_ok, nmX12, rfl⟩
theorem fd_12_13 : mFd 12 13 RX12 TX12 72 := ⟨rfl, in_X12, by decide, by decide, by decide⟩
theorem fp_12_13 : mFp 12 13 TX12 72 tyX12 := ⟨tyX12_ok, nmX12, rfl⟩
theorem fd_12_14 : mFd 12 14 RX12 TX12 72 := ⟨rfl, in_X12, by decide, by decide, by decide⟩
theorem fd_12_15 : mFd 12 15 RX12 TX12 72 := ⟨rfl, in_X12, by decide, by decide, by decide⟩
theorem fd_12_16 : mFd 12 16 RX12 TX12 72 := ⟨rfl, in_X12, by decide, by decide, by decide⟩
theorem fd_12_17 : mFd 12 17 RX12 TX12 72 := ⟨rfl, in_X12, by decide, by decide, by decide⟩
theorem fd_12_18 : mFd 12 18 RX12 TX12 72 := ⟨rfl, in_X12, by decide, by decide, by decide⟩
theorem fd_12_19 : mFd 12 19 RX12 TX12 72 := ⟨rfl, in_X12, by decide, by decide, by decide⟩
theorem fd_12_20 : mFd 12 20 RX12 TX12 72 := ⟨rfl, in_X12, by decide, by decide, by decide⟩
theorem fd_12_21 : mFd 12 21 RX12 TX12 72 := ⟨rfl, in_X12, by decide, by decide, by decide⟩
theorem fd_12_22 : mFd 12 22 RX12 TX12 72 := ⟨rfl, in_X12, by decide, by decide, by decide⟩
theorem fd_12_23 : mFd 12 23 RX12 TX12 72 := ⟨rfl, in_X12, by decide, by decide, by decide⟩
theorem fd_12_24 : mFd 12 24 RX12 TX12 72 := ⟨rfl, in_X12, by decide, by decide, by decide⟩
theorem fd_12_25 : mFd 12 25 RX12 TX12 72 := ⟨rfl, in_X12, by decide, by decide, by decide⟩
theorem fd_12_26 : mFd 12 26 RX12 TX12 72 := ⟨rfl, in_X12, by decide, by decide, by decide⟩
theorem fd_12_27 : mFd 12 27 RX12 TX12 72 := ⟨rfl, in_X12, by decide, by decide, by decide⟩
theorem fd_12_28 : mFd 12 28 RX12 TX12 72 := ⟨rfl, in_X12, by decide, by decide, by decide⟩
theorem fd_12_29 : mFd 12 29 RX12 TX12 72 := ⟨rfl, in_X12, by decide, by decide, by decide⟩
theorem fp_12_29 : mFp 12 29 TX12 72 tyX12 := ⟨tyX12_ok, nmX12, rfl⟩
theorem fd_12_30 : mFd 12 30 RX12 TX12 72 := ⟨rfl, in_X12, by decide, by decide, by decide⟩
theorem fp_12_30 : mFp 12 30 TX12 72 tyX12 := ⟨tyX12_ok, nmX12, rfl⟩
theorem fd_12_31 : mFd 12 31 RX12 TX12 72 := ⟨rfl, in_X12, by decide, by decide, by decide⟩
theorem fp_12_31 : mFp 12 31 TX12 72 tyX12 := ⟨tyX12_ok, nmX12, rfl⟩
theorem fd_12_32 : mFd 12 32 RX12 TX12 72 := ⟨rfl, in_X12, by decide, by decide, by decide⟩
theorem fd_12_33 : mFd 12 33 RX12 TX12 72 := ⟨rfl, in_X12, by decide, by decide, by decide⟩
theorem fd_12_34 : mFd 12 34 RX12 TX12 72 := ⟨rfl, in_X12, by decide, by decide, by decide⟩
theorem fd_12_35 : mFd 12 35 RX12 TX12 72 := ⟨rfl, in_X12, by decide, by decide, by decide⟩
theorem fd_12_36 : mFd 12 36 RX12 TX12 72 := ⟨rfl, in_X12, by decide, by decide, by decide⟩
theorem fd_12_37 : mFd 12 37 RX12 TX12 72 := ⟨rfl, in_X12, by decide, by decide, by decide⟩
theorem fp_12_37 : mFp 12 37 TX12 72 tyX12 := ⟨tyX12_ok, nmX12, rfl⟩
theorem fd_12_38 : mFd 12 38 RX12 TX12 72 := ⟨rfl, in_X12, by decide, by decide, by decide⟩
theorem fp_12_38 : mFp 12 38 TX12 72 tyX12 := ⟨tyX12_ok, nmX12, rfl⟩
theorem fd_12_39 : mFd 12 39 RX12 TX12 72 := ⟨rfl, in_X12, by decide, by decide, by decide⟩
theorem fd_12_40 : mFd 12 40 RX12 TX12 72 := ⟨rfl, in_X12, by decide, by decide, by decide⟩
theorem fp_12_40 : mFp 12 40 TX12 72 tyX12 := ⟨tyX12_ok, nmX12, rfl⟩
theorem fd_12_41 : mFd 12 41 RX12 TX12 72 := ⟨rfl, in_X12, by decide, by decide, by decide⟩
theorem fp_12_41 : mFp 12 41 TX12 72 tyX12 := ⟨tyX12_ok, nmX12, rfl⟩
theorem fd_12_42 : mFd 12 42 RX12 TX12 72 := ⟨rfl, in_X12, by decide, by decide, by decide⟩
theorem fd_12_43 : mFd 12 43 RX12 TX12 72 := ⟨rfl, in_X12, by decide, by decide, by decide⟩
theorem fd_12_44 : mFd 12 44 RX12 TX12 72 := ⟨rfl, in_X12, by decide, by decide, by decide⟩
theorem fd_12_45 : mFd 12 45 RX12 TX12 72 := ⟨rfl, in_X12, by decide, by decide, by decide⟩
theorem fd_12_46 : mFd 12 46 RX12 TX12 72 := ⟨rfl, in_X12, by decide, by decide, by decide⟩
theorem fd_12_47 : mFd 12 47 RX12 TX12 72 := ⟨rfl, in_X12, by decide, by decide, by decide⟩
theorem fd_12_48 : mFd 12 48 RX12 TX12 72 := ⟨rfl, in_X12, by decide, by decide, by decide⟩
theorem fd_12_49 : mFd 12 49 RX12 TX12 72 := ⟨rfl, in_X12, by decide, by decide, by decide⟩
theorem fd_12_50 : mFd 12 50 RX12 TX12 72 := ⟨rfl, in_X12, by decide, by decide, by decide⟩
theorem fd_12_51 : mFd 12 51 RX12 TX12 72 := ⟨rfl, in_X12, by decide, by decide, by decide⟩
theorem fd_12_52 : mFd 12 52 RX12 TX12 72 := ⟨rfl, in_X12, by decide, by decide, by decide⟩
theorem fp_12_52 : mFp 12 52 TX12 72 tyX12 := ⟨tyX12_ok, nmX12, rfl⟩
theorem fd_12_53 : mFd 12 53 RX12 TX12 72 := ⟨rfl, in_X12, by decide, by decide, by decide⟩
theorem fp_12_53 : mFp 12 53 TX12 72 tyX12 := ⟨tyX12_ok, nmX12, rfl⟩
theorem fd_12_54 : mFd 12 54 RX12 TX12 72 := ⟨rfl, in_X12, by decide, by decide, by decide⟩
theorem fp_12_54 : mFp 12 54 TX12 72 tyX12 := ⟨tyX12_ok, nmX12, rfl⟩
theorem fd_12_55 : mFd 12 55 RX12 TX12 72 := ⟨rfl, in_X12, by decide, by decide, by decide⟩
theorem fd_12_56 : mFd 12 56 RX12 TX12 72 := ⟨rfl, in_X12, by decide, by decide, by decide⟩
theorem fd_12_57 : mFd 12 57 RX12 TX12 72 := ⟨rfl, in_X12, by decide, by decide, by decide⟩
theorem fp_12_57 : mFp 12 57 TX12 72 tyX12 := ⟨tyX12_ok, nmX12, rfl⟩
theorem fd_12_58 : mFd 12 58 RX12 TX12 72 := ⟨rfl, in_X12, by decide, by decide, by decide⟩
theorem fp_12_58 : mFp 12 58 TX12 72 tyX12 := ⟨tyX12_ok, nmX12, rfl⟩
theorem fd_12_59 : mFd 12 59 RX12 TX12 72 := ⟨rfl, in_X12, by decide, by decide, by decide⟩
theorem fp_12_59 : mFp 12 59 TX12 72 tyX12 := ⟨tyX12_ok, nmX12, rfl⟩
theorem fd_12_60 : mFd 12 60 RX12 TX12 72 := ⟨rfl, in_X12, by decide, by decide, by decide⟩
theorem fp_12_60 : mFp 12 60 TX12 72 tyX12 := ⟨tyX12_ok, nmX12, rfl⟩
theorem fd_12_61 : mFd 12 61 RX12 TX12 72 := ⟨rfl, in_X12, by decide, by decide, by decide⟩
theorem fp_12_61 : mFp 12 61 TX12 72 tyX12 := ⟨tyX12_ok, nmX12, rfl⟩
theorem fd_12_62 : mFd 12 62 RX12 TX12 72 := ⟨rfl, in_X12, by decide, by decide, by decide⟩
theorem fp_12_62 : mFp 12 62 TX12 72 tyX12 := ⟨tyX12_ok, nmX12, rfl⟩
theorem fd_12_63 : mFd 12 63 RX12 TX12 72 := ⟨rfl, in_X12, by decide, by decide, by decide⟩
theorem fp_12_63 : mFp 12 63 TX12 72 tyX12 := ⟨tyX12_ok, nmX12, rfl⟩
theorem fd_12_64 : mFd 12 64 RX12 TX12 72 := ⟨rfl, in_X12, by decide, by decide, by decide⟩
theorem fp_12_64 : mFp 12 64 TX12 72 tyX12 := ⟨tyX12_ok, nmX12, rfl⟩
theorem fd_12_65 : mFd 12 65 RX12 TX12 72 := ⟨rfl, in_X12, by decide, by decide, by decide⟩
theorem fd_12_66 : mFd 12 66 RX12 TX12 72 := ⟨rfl, in_X12, by decide, by decide, by decide⟩
theorem fp_12_66 : mFp 12 66 TX12 72 tyX12 := ⟨tyX12_ok, nmX12, rfl⟩
theorem fd_12_67 : mFd 12 67 RX12 TX12 72 := ⟨rfl, in_X12, by decide, by decide, by decide⟩
theorem fd_12_68 : mFd 12 68 RX12 TX12 72 := ⟨rfl, in_X12, by decide, by decide, by decide⟩
theorem fd_12_69 : mFd 12 69 RX12 TX12 72 := ⟨rfl, in_X12, by decide, by decide, by decide⟩
theorem fd_12_70 : mFd 12 70 RX12 TX12 72 := ⟨rfl, in_X12, by decide, by decide, by decide⟩
theorem fd_12_71 : mFd 12 71 RX12 TX12 72 := ⟨rfl, in_X12, by decide, by decide, by decide⟩
theorem fp_12_71 : mFp 12 71 TX12 72 tyX12 := ⟨tyX12_ok, nmX12, rfl⟩
theorem cn_X0 : RX0 ≠ "java/lang/invoke/MethodHandle" ∧ RX0 ≠ "java/lang/invoke/VarHandle" ∧ plainName RX0 = true := ⟨by decide +kernel, by decide +kernel, by decide +kernel⟩
theorem cn_X1 : RX1 ≠ "java/lang/invoke/MethodHandle" ∧ RX1 ≠ "java/lang/invoke/VarHandle" ∧ plainName RX1 = true := ⟨by decide +kernel, by decide +kernel, by decide +kernel⟩
theorem cn_X2 : RX2 ≠ "java/lang/invoke/MethodHandle" ∧ RX2 ≠ "java/lang/invoke/VarHandle" ∧ plainName RX2 = true := ⟨by decide +kernel, by decide +kernel, by decide +kernel⟩
theorem cn_X3 : RX3 ≠ "java/lang/invoke/MethodHandle" ∧ RX3 ≠ "java/lang/invoke/VarHandle" ∧ plainName RX3 = true := ⟨by decide +kernel, by decide +kernel, by decide +kernel⟩
theorem cn_X4 : RX4 ≠ "java/lang/invoke/MethodHandle" ∧ RX4 ≠ "java/lang/invoke/VarHandle" ∧ plainName RX4 = true := ⟨by decide +kernel, by decide +kernel, by decide +kernel⟩
theorem cn_X5 : RX5 ≠ "java/lang/invoke/MethodHandle" ∧ RX5 ≠ "java/lang/invoke/VarHandle" ∧ plainName RX5 = true := ⟨by decide +kernel, by decide +kernel, by decide +kernel⟩
theorem cn_X6 : RX6 ≠ "java/lang/invoke/MethodHandle" ∧ RX6 ≠ "java/lang/invoke/VarHandle" ∧ plainName RX6 = true := ⟨by decide +kernel, by decide +kernel, by decide +kernel⟩
theorem cn_X7 : RX7 ≠ "java/lang/invoke/MethodHandle" ∧ RX7 ≠ "java/lang/invoke/VarHandle" ∧ plainName RX7 = true := ⟨by decide +kernel, by decide +kernel, by decide +kernel⟩
theorem cn_X8 : RX8 ≠ "java/lang/invoke/MethodHandle" ∧ RX8 ≠ "java/lang/invoke/VarHandle" ∧ plainName RX8 = true := ⟨by decide +kernel, by decide +kernel, by decide +kernel⟩
theorem cn_X9 : RX9 ≠ "java/lang/invoke/MethodHandle" ∧ RX9 ≠ "java/lang/invoke/VarHandle" ∧ plainName RX9 = true := ⟨by decide +kernel, by decide +kernel, by decide +kernel⟩
theorem cn_X10 : RX10 ≠ "java/lang/invoke/MethodHandle" ∧ RX10 ≠ "java/lang/invoke/VarHandle" ∧ plainName RX10 = true := ⟨by decide +kernel, by decide +kernel, by decide +kernel⟩
theorem cn_X11 : RX11 ≠ "java/lang/invoke/MethodHandle" ∧ RX11 ≠ "java/lang/invoke/VarHandle" ∧ plainName RX11 = true := ⟨by decide +kernel, by decide +kernel, by decide +kernel⟩
theorem cn_X12 : RX12 ≠ "java/lang/invoke/MethodHandle" ∧ RX12 ≠ "java/lang/invoke/VarHandle" ∧ plainName RX12 = true := ⟨by decide +kernel, by decide +kernel, by decide +kernel⟩
theorem cn_J9 : RJ9 ≠ "java/lang/invoke/MethodHandle" ∧ RJ9 ≠ "java/lang/invoke/VarHandle" ∧ True := ⟨by decide +kernel, by decide +kernel, trivial⟩
theorem cn_J7 : RJ7 ≠ "java/lang/invoke/MethodHandle" ∧ RJ7 ≠ "java/lang/invoke/VarHandle" ∧ plainName RJ7 = true := ⟨by decide +kernel, by decide +kernel, by decide +kernel⟩
theorem pd_0 : (parseMethodDescriptor "(LBlackLine$Plan;)V").map (fun d => d.parameters.length) = some 1 := by decide +kernel
theorem pd_1 : (parseMethodDescriptor "(LBlackLine$World;III)I").map (fun d => d.parameters.length) = some 4 := by decide +kernel
theorem pd_2 : (parseMethodDescriptor "(LBlackLine$World;I)I").map (fun d => d.parameters.length) = some 2 := by decide +kernel
theorem pd_3 : (parseMethodDescriptor "(LBlackLine$World;I)Z").map (fun d => d.parameters.length) = some 2 := by decide +kernel
theorem pd_4 : (parseMethodDescriptor "(LBlackLine$World;II)I").map (fun d => d.parameters.length) = some 3 := by decide +kernel
theorem pd_5 : (parseMethodDescriptor "(LBlackLine$World;)I").map (fun d => d.parameters.length) = some 1 := by decide +kernel
theorem pd_6 : (parseMethodDescriptor "(II)I").map (fun d => d.parameters.length) = some 2 := by decide +kernel
theorem pd_7 : (parseMethodDescriptor "(IIII)V").map (fun d => d.parameters.length) = some 4 := by decide +kernel
theorem pd_8 : (parseMethodDescriptor "(LBlackLine$Tokens;LBlackLine$Plan;)V").map (fun d => d.parameters.length) = some 2 := by decide +kernel
theorem pd_9 : (parseMethodDescriptor "(I)V").map (fun d => d.parameters.length) = some 1 := by decide +kernel
theorem pd_10 : (parseMethodDescriptor "()I").map (fun d => d.parameters.length) = some 0 := by decide +kernel
theorem pd_11 : (parseMethodDescriptor "(II)V").map (fun d => d.parameters.length) = some 2 := by decide +kernel
theorem pd_12 : (parseMethodDescriptor "()V").map (fun d => d.parameters.length) = some 0 := by decide +kernel
theorem pd_13 : (parseMethodDescriptor "(I)I").map (fun d => d.parameters.length) = some 1 := by decide +kernel
theorem pd_14 : (parseMethodDescriptor "(I)Z").map (fun d => d.parameters.length) = some 1 := by decide +kernel
theorem pd_15 : (parseMethodDescriptor "(LBlackLine$Plan;II)I").map (fun d => d.parameters.length) = some 3 := by decide +kernel
theorem pd_16 : (parseMethodDescriptor "(IJJ)J").map (fun d => d.parameters.length) = some 3 := by decide +kernel
theorem pd_17 : (parseMethodDescriptor "(LBlackLine$World;)V").map (fun d => d.parameters.length) = some 1 := by decide +kernel
theorem pd_18 : (parseMethodDescriptor "(LBlackLine$World;LBlackLine$Tape;)Z").map (fun d => d.parameters.length) = some 2 := by decide +kernel
theorem pd_19 : (parseMethodDescriptor "(LBlackLine$Tape;I)Z").map (fun d => d.parameters.length) = some 2 := by decide +kernel
theorem pd_20 : (parseMethodDescriptor "()Z").map (fun d => d.parameters.length) = some 0 := by decide +kernel
theorem pd_21 : (parseMethodDescriptor "(II)Z").map (fun d => d.parameters.length) = some 2 := by decide +kernel
theorem pd_22 : (parseMethodDescriptor "(III)V").map (fun d => d.parameters.length) = some 3 := by decide +kernel
theorem pd_23 : (parseMethodDescriptor "(LBlackLine$Tape;LBlackLine$Plan;)V").map (fun d => d.parameters.length) = some 2 := by decide +kernel
theorem pd_24 : (parseMethodDescriptor "(LBlackLine$Plan;)I").map (fun d => d.parameters.length) = some 1 := by decide +kernel
theorem pd_25 : (parseMethodDescriptor "(Z)V").map (fun d => d.parameters.length) = some 1 := by decide +kernel
theorem pd_26 : (parseMethodDescriptor "(LBlackLine$Tape;)V").map (fun d => d.parameters.length) = some 1 := by decide +kernel
theorem pd_27 : (parseMethodDescriptor "(III)Z").map (fun d => d.parameters.length) = some 3 := by decide +kernel
theorem pd_28 : (parseMethodDescriptor "(C)Z").map (fun d => d.parameters.length) = some 1 := by decide +kernel
theorem pd_29 : (parseMethodDescriptor "(C)V").map (fun d => d.parameters.length) = some 1 := by decide +kernel
theorem pd_30 : (parseMethodDescriptor "(LBlackLine$Tape;LBlackLine$Plan;)Z").map (fun d => d.parameters.length) = some 2 := by decide +kernel
theorem pd_31 : (parseMethodDescriptor "(LBlackLine$World;I)V").map (fun d => d.parameters.length) = some 2 := by decide +kernel
theorem pd_32 : (parseMethodDescriptor "([IIII)I").map (fun d => d.parameters.length) = some 4 := by decide +kernel
theorem pd_33 : (parseMethodDescriptor "([I)V").map (fun d => d.parameters.length) = some 1 := by decide +kernel
theorem pd_34 : (parseMethodDescriptor "(IIIII)I").map (fun d => d.parameters.length) = some 5 := by decide +kernel
theorem pd_35 : (parseMethodDescriptor "(III)I").map (fun d => d.parameters.length) = some 3 := by decide +kernel
theorem pd_36 : (parseMethodDescriptor "(J)Z").map (fun d => d.parameters.length) = some 1 := by decide +kernel
theorem pd_37 : (parseMethodDescriptor "(J)I").map (fun d => d.parameters.length) = some 1 := by decide +kernel
theorem pd_38 : (parseMethodDescriptor "(Z)Z").map (fun d => d.parameters.length) = some 1 := by decide +kernel
theorem pd_39 : (parseMethodDescriptor "(J)V").map (fun d => d.parameters.length) = some 1 := by decide +kernel
theorem pd_40 : (parseMethodDescriptor "()J").map (fun d => d.parameters.length) = some 0 := by decide +kernel
theorem pd_41 : (parseMethodDescriptor "(J)J").map (fun d => d.parameters.length) = some 1 := by decide +kernel
theorem pd_42 : (parseMethodDescriptor "(JJ)J").map (fun d => d.parameters.length) = some 2 := by decide +kernel
theorem pd_43 : (parseMethodDescriptor "(I)J").map (fun d => d.parameters.length) = some 1 := by decide +kernel
theorem pd_44 : (parseMethodDescriptor "(IIII)I").map (fun d => d.parameters.length) = some 4 := by decide +kernel
theorem pd_45 : (parseMethodDescriptor "([II)V").map (fun d => d.parameters.length) = some 2 := by decide +kernel
def wb_0_l : List Cond := [Cond.initialized RX0, Cond.initialized RX1, Cond.initialized RX2, Cond.initialized RX3, Cond.initialized RX4, Cond.initialized RX5, Cond.initialized RX6, Cond.initialized RX7, Cond.initialized RX8, Cond.initialized RX9, Cond.initialized RX10, Cond.initialized RX11, Cond.initialized RX12, Cond.initialized RJ9, Cond.initialized RJ7, Cond.initialized RJ10, Cond.instanceMethod yX0_stateBehind, Cond.selects yX0_stateBehind.cls yX0_stateBehind yX0_stateBehind, Cond.instanceMethod yX0_stepsRound, Cond.selects yX0_stepsRound.cls yX0_stepsRound yX0_stepsRound, Cond.instanceMethod yX0_isAsIn, Cond.instanceMethod yX0_stepsToLoss, Cond.selects yX0_stepsToLoss.cls yX0_stepsToLoss yX0_stepsToLoss, Cond.instanceMethod yX0_firstJam, Cond.selects yX0_firstJam.cls yX0_firstJam yX0_firstJam, Cond.instanceMethod yX0_nearest, Cond.selects yX0_nearest.cls yX0_nearest yX0_nearest, Cond.instanceMethod yX0_distance, Cond.instanceMethod yX0_bestEyes, Cond.selects yX0_bestEyes.cls yX0_bestEyes yX0_bestEyes, Cond.instanceMethod yX0_blackSteps, Cond.instanceMethod yX0_fewestMoves, Cond.selects yX0_fewestMoves.cls yX0_fewestMoves yX0_fewestMoves, Cond.instanceMethod yX0_reach, Cond.instanceMethod yX0_leastDelay, Cond.selects yX0_leastDelay.cls yX0_leastDelay yX0_leastDelay, Cond.instanceMethod yX0_brightestLamp, Cond.selects yX0_brightestLamp.cls yX0_brightestLamp yX0_brightestLamp, Cond.instanceMethod yX1_readSteers, Cond.selects yX1_readSteers.cls yX1_readSteers yX1_readSteers]
theorem wb_0_in : ∀ w ∈ wb_0_l, w ∈ lw_g := lw_rows [14, 11, 13, 16, 17, 3, 5, 2, 6, 15, 12, 1, 18, 20, 4, 19, 819, 820, 879, 880, 885, 892, 893, 900, 901, 908, 909, 913, 924, 925, 929, 940, 941, 946, 958, 959, 966, 967, 630, 631] (by decide +kernel) (by decide +kernel)
theorem ii_X0 : Cond.initialized RX0 ∈ lw_g := wb_0_in _ (List.mem_of_getElem? (i := 0) rfl)
theorem ii_X1 : Cond.initialized RX1 ∈ lw_g := wb_0_in _ (List.mem_of_getElem? (i := 1) rfl)
theorem ii_X2 : Cond.initialized RX2 ∈ lw_g := wb_0_in _ (List.mem_of_getElem? (i := 2) rfl)
theorem ii_X3 : Cond.initialized RX3 ∈ lw_g := wb_0_in _ (List.mem_of_getElem? (i := 3) rfl)
theorem ii_X4 : Cond.initialized RX4 ∈ lw_g := wb_0_in _ (List.mem_of_getElem? (i := 4) rfl)
theorem ii_X5 : Cond.initialized RX5 ∈ lw_g := wb_0_in _ (List.mem_of_getElem? (i := 5) rfl)
theorem ii_X6 : Cond.initialized RX6 ∈ lw_g := wb_0_in _ (List.mem_of_getElem? (i := 6) rfl)
theorem ii_X7 : Cond.initialized RX7 ∈ lw_g := wb_0_in _ (List.mem_of_getElem? (i := 7) rfl)
theorem ii_X8 : Cond.initialized RX8 ∈ lw_g := wb_0_in _ (List.mem_of_getElem? (i := 8) rfl)
theorem ii_X9 : Cond.initialized RX9 ∈ lw_g := wb_0_in _ (List.mem_of_getElem? (i := 9) rfl)
theorem ii_X10 : Cond.initialized RX10 ∈ lw_g := wb_0_in _ (List.mem_of_getElem? (i := 10) rfl)
theorem ii_X11 : Cond.initialized RX11 ∈ lw_g := wb_0_in _ (List.mem_of_getElem? (i := 11) rfl)
theorem ii_X12 : Cond.initialized RX12 ∈ lw_g := wb_0_in _ (List.mem_of_getElem? (i := 12) rfl)
theorem ii_J9 : Cond.initialized RJ9 ∈ lw_g := wb_0_in _ (List.mem_of_getElem? (i := 13) rfl)
theorem ii_J7 : Cond.initialized RJ7 ∈ lw_g := wb_0_in _ (List.mem_of_getElem? (i := 14) rfl)
theorem ii_J10 : Cond.initialized RJ10 ∈ lw_g := wb_0_in _ (List.mem_of_getElem? (i := 15) rfl)
theorem kn_X0_stateBehind : Cond.instanceMethod yX0_stateBehind ∈ lw_g := wb_0_in _ (List.mem_of_getElem? (i := 16) rfl)
theorem kz_X0_stateBehind : Cond.selects yX0_stateBehind.cls yX0_stateBehind yX0_stateBehind ∈ lw_g := wb_0_in _ (List.mem_of_getElem? (i := 17) rfl)
theorem kn_X0_stepsRound : Cond.instanceMethod yX0_stepsRound ∈ lw_g := wb_0_in _ (List.mem_of_getElem? (i := 18) rfl)
theorem kz_X0_stepsRound : Cond.selects yX0_stepsRound.cls yX0_stepsRound yX0_stepsRound ∈ lw_g := wb_0_in _ (List.mem_of_getElem? (i := 19) rfl)
theorem kn_X0_isAsIn : Cond.instanceMethod yX0_isAsIn ∈ lw_g := wb_0_in _ (List.mem_of_getElem? (i := 20) rfl)
theorem kn_X0_stepsToLoss : Cond.instanceMethod yX0_stepsToLoss ∈ lw_g := wb_0_in _ (List.mem_of_getElem? (i := 21) rfl)
theorem kz_X0_stepsToLoss : Cond.selects yX0_stepsToLoss.cls yX0_stepsToLoss yX0_stepsToLoss ∈ lw_g := wb_0_in _ (List.mem_of_getElem? (i := 22) rfl)
theorem kn_X0_firstJam : Cond.instanceMethod yX0_firstJam ∈ lw_g := wb_0_in _ (List.mem_of_getElem? (i := 23) rfl)
theorem kz_X0_firstJam : Cond.selects yX0_firstJam.cls yX0_firstJam yX0_firstJam ∈ lw_g := wb_0_in _ (List.mem_of_getElem? (i := 24) rfl)
theorem kn_X0_nearest : Cond.instanceMethod yX0_nearest ∈ lw_g := wb_0_in _ (List.mem_of_getElem? (i := 25) rfl)
theorem kz_X0_nearest : Cond.selects yX0_nearest.cls yX0_nearest yX0_nearest ∈ lw_g := wb_0_in _ (List.mem_of_getElem? (i := 26) rfl)
theorem kn_X0_distance : Cond.instanceMethod yX0_distance ∈ lw_g := wb_0_in _ (List.mem_of_getElem? (i := 27) rfl)
theorem kn_X0_bestEyes : Cond.instanceMethod yX0_bestEyes ∈ lw_g := wb_0_in _ (List.mem_of_getElem? (i := 28) rfl)
theorem kz_X0_bestEyes : Cond.selects yX0_bestEyes.cls yX0_bestEyes yX0_bestEyes ∈ lw_g := wb_0_in _ (List.mem_of_getElem? (i := 29) rfl)
theorem kn_X0_blackSteps : Cond.instanceMethod yX0_blackSteps ∈ lw_g := wb_0_in _ (List.mem_of_getElem? (i := 30) rfl)
theorem kn_X0_fewestMoves : Cond.instanceMethod yX0_fewestMoves ∈ lw_g := wb_0_in _ (List.mem_of_getElem? (i := 31) rfl)
theorem kz_X0_fewestMoves : Cond.selects yX0_fewestMoves.cls yX0_fewestMoves yX0_fewestMoves ∈ lw_g := wb_0_in _ (List.mem_of_getElem? (i := 32) rfl)
theorem kn_X0_reach : Cond.instanceMethod yX0_reach ∈ lw_g := wb_0_in _ (List.mem_of_getElem? (i := 33) rfl)
theorem kn_X0_leastDelay : Cond.instanceMethod yX0_leastDelay ∈ lw_g := wb_0_in _ (List.mem_of_getElem? (i := 34) rfl)
theorem kz_X0_leastDelay : Cond.selects yX0_leastDelay.cls yX0_leastDelay yX0_leastDelay ∈ lw_g := wb_0_in _ (List.mem_of_getElem? (i := 35) rfl)
theorem kn_X0_brightestLamp : Cond.instanceMethod yX0_brightestLamp ∈ lw_g := wb_0_in _ (List.mem_of_getElem? (i := 36) rfl)
theorem kz_X0_brightestLamp : Cond.selects yX0_brightestLamp.cls yX0_brightestLamp yX0_brightestLamp ∈ lw_g := wb_0_in _ (List.mem_of_getElem? (i := 37) rfl)
theorem kn_X1_readSteers : Cond.instanceMethod yX1_readSteers ∈ lw_g := wb_0_in _ (List.mem_of_getElem? (i := 38) rfl)
theorem kz_X1_readSteers : Cond.selects yX1_readSteers.cls yX1_readSteers yX1_readSteers ∈ lw_g := wb_0_in _ (List.mem_of_getElem? (i := 39) rfl)
def wb_1_l : List Cond := [Cond.instanceMethod yX1_readGoes, Cond.selects yX1_readGoes.cls yX1_readGoes yX1_readGoes, Cond.instanceMethod yX1_test, Cond.instanceMethod yX1_both, Cond.instanceMethod yX1_fact, Cond.instanceMethod yX1_comparison, Cond.instanceMethod yX1_sum, Cond.instanceMethod yX1_product, Cond.instanceMethod yX1_productSign, Cond.instanceMethod yX1_part, Cond.instanceMethod yX1_choice, Cond.instanceMethod yX1_known, Cond.static yX1_knownOf, Cond.instanceMethod yX1_passOpening, Cond.instanceMethod yX2_valueOf, Cond.selects yX2_valueOf.cls yX2_valueOf yX2_valueOf, Cond.static yX2_needsOf, Cond.static yX2_joined, Cond.instanceMethod yX3_forget, Cond.selects yX3_forget.cls yX3_forget yX3_forget, Cond.instanceMethod yX3_told, Cond.selects yX3_told.cls yX3_told yX3_told, Cond.instanceMethod yX3_remember, Cond.selects yX3_remember.cls yX3_remember yX3_remember, Cond.instanceMethod yX3_restore, Cond.selects yX3_restore.cls yX3_restore yX3_restore, Cond.instanceMethod yX3_keepStep, Cond.selects yX3_keepStep.cls yX3_keepStep yX3_keepStep, Cond.instanceMethod yX3_keptPart, Cond.selects yX3_keptPart.cls yX3_keptPart yX3_keptPart, Cond.instanceMethod yX4_byteAt, Cond.selects yX4_byteAt.cls yX4_byteAt yX4_byteAt, Cond.instanceMethod yX4_write, Cond.selects yX4_write.cls yX4_write yX4_write, Cond.instanceMethod yX4_readInto, Cond.selects yX4_readInto.cls yX4_readInto yX4_readInto, Cond.instanceMethod yX4_readBox, Cond.static yX4_checkedBy, Cond.instanceMethod yX4_addPair, Cond.instanceMethod yX4_add]
theorem wb_1_in : ∀ w ∈ wb_1_l, w ∈ lw_g := lw_rows [697, 698, 671, 675, 679, 683, 636, 640, 694, 644, 667, 687, 690, 656, 838, 839, 843, 846, 383, 384, 759, 760, 1024, 1025, 1080, 1081, 1041, 1042, 1096, 1097, 1118, 1119, 1105, 1106, 1134, 1135, 1146, 1122, 1110, 1114] (by decide +kernel) (by decide +kernel)
theorem kn_X1_readGoes : Cond.instanceMethod yX1_readGoes ∈ lw_g := wb_1_in _ (List.mem_of_getElem? (i := 0) rfl)
theorem kz_X1_readGoes : Cond.selects yX1_readGoes.cls yX1_readGoes yX1_readGoes ∈ lw_g := wb_1_in _ (List.mem_of_getElem? (i := 1) rfl)
theorem kn_X1_test : Cond.instanceMethod yX1_test ∈ lw_g := wb_1_in _ (List.mem_of_getElem? (i := 2) rfl)
theorem kn_X1_both : Cond.instanceMethod yX1_both ∈ lw_g := wb_1_in _ (List.mem_of_getElem? (i := 3) rfl)
theorem kn_X1_fact : Cond.instanceMethod yX1_fact ∈ lw_g := wb_1_in _ (List.mem_of_getElem? (i := 4) rfl)
theorem kn_X1_comparison : Cond.instanceMethod yX1_comparison ∈ lw_g := wb_1_in _ (List.mem_of_getElem? (i := 5) rfl)
theorem kn_X1_sum : Cond.instanceMethod yX1_sum ∈ lw_g := wb_1_in _ (List.mem_of_getElem? (i := 6) rfl)
theorem kn_X1_product : Cond.instanceMethod yX1_product ∈ lw_g := wb_1_in _ (List.mem_of_getElem? (i := 7) rfl)
theorem kn_X1_productSign : Cond.instanceMethod yX1_productSign ∈ lw_g := wb_1_in _ (List.mem_of_getElem? (i := 8) rfl)
theorem kn_X1_part : Cond.instanceMethod yX1_part ∈ lw_g := wb_1_in _ (List.mem_of_getElem? (i := 9) rfl)
theorem kn_X1_choice : Cond.instanceMethod yX1_choice ∈ lw_g := wb_1_in _ (List.mem_of_getElem? (i := 10) rfl)
theorem kn_X1_known : Cond.instanceMethod yX1_known ∈ lw_g := wb_1_in _ (List.mem_of_getElem? (i := 11) rfl)
theorem ks_X1_knownOf : Cond.static yX1_knownOf ∈ lw_g := wb_1_in _ (List.mem_of_getElem? (i := 12) rfl)
theorem kn_X1_passOpening : Cond.instanceMethod yX1_passOpening ∈ lw_g := wb_1_in _ (List.mem_of_getElem? (i := 13) rfl)
theorem kn_X2_valueOf : Cond.instanceMethod yX2_valueOf ∈ lw_g := wb_1_in _ (List.mem_of_getElem? (i := 14) rfl)
theorem kz_X2_valueOf : Cond.selects yX2_valueOf.cls yX2_valueOf yX2_valueOf ∈ lw_g := wb_1_in _ (List.mem_of_getElem? (i := 15) rfl)
theorem ks_X2_needsOf : Cond.static yX2_needsOf ∈ lw_g := wb_1_in _ (List.mem_of_getElem? (i := 16) rfl)
theorem ks_X2_joined : Cond.static yX2_joined ∈ lw_g := wb_1_in _ (List.mem_of_getElem? (i := 17) rfl)
theorem kn_X3_forget : Cond.instanceMethod yX3_forget ∈ lw_g := wb_1_in _ (List.mem_of_getElem? (i := 18) rfl)
theorem kz_X3_forget : Cond.selects yX3_forget.cls yX3_forget yX3_forget ∈ lw_g := wb_1_in _ (List.mem_of_getElem? (i := 19) rfl)
theorem kn_X3_told : Cond.instanceMethod yX3_told ∈ lw_g := wb_1_in _ (List.mem_of_getElem? (i := 20) rfl)
theorem kz_X3_told : Cond.selects yX3_told.cls yX3_told yX3_told ∈ lw_g := wb_1_in _ (List.mem_of_getElem? (i := 21) rfl)
theorem kn_X3_remember : Cond.instanceMethod yX3_remember ∈ lw_g := wb_1_in _ (List.mem_of_getElem? (i := 22) rfl)
theorem kz_X3_remember : Cond.selects yX3_remember.cls yX3_remember yX3_remember ∈ lw_g := wb_1_in _ (List.mem_of_getElem? (i := 23) rfl)
theorem kn_X3_restore : Cond.instanceMethod yX3_restore ∈ lw_g := wb_1_in _ (List.mem_of_getElem? (i := 24) rfl)
theorem kz_X3_restore : Cond.selects yX3_restore.cls yX3_restore yX3_restore ∈ lw_g := wb_1_in _ (List.mem_of_getElem? (i := 25) rfl)
theorem kn_X3_keepStep : Cond.instanceMethod yX3_keepStep ∈ lw_g := wb_1_in _ (List.mem_of_getElem? (i := 26) rfl)
theorem kz_X3_keepStep : Cond.selects yX3_keepStep.cls yX3_keepStep yX3_keepStep ∈ lw_g := wb_1_in _ (List.mem_of_getElem? (i := 27) rfl)
theorem kn_X3_keptPart : Cond.instanceMethod yX3_keptPart ∈ lw_g := wb_1_in _ (List.mem_of_getElem? (i := 28) rfl)
theorem kz_X3_keptPart : Cond.selects yX3_keptPart.cls yX3_keptPart yX3_keptPart ∈ lw_g := wb_1_in _ (List.mem_of_getElem? (i := 29) rfl)
theorem kn_X4_byteAt : Cond.instanceMethod yX4_byteAt ∈ lw_g := wb_1_in _ (List.mem_of_getElem? (i := 30) rfl)
theorem kz_X4_byteAt : Cond.selects yX4_byteAt.cls yX4_byteAt yX4_byteAt ∈ lw_g := wb_1_in _ (List.mem_of_getElem? (i := 31) rfl)
theorem kn_X4_write : Cond.instanceMethod yX4_write ∈ lw_g := wb_1_in _ (List.mem_of_getElem? (i := 32) rfl)
theorem kz_X4_write : Cond.selects yX4_write.cls yX4_write yX4_write ∈ lw_g := wb_1_in _ (List.mem_of_getElem? (i := 33) rfl)
theorem kn_X4_readInto : Cond.instanceMethod yX4_readInto ∈ lw_g := wb_1_in _ (List.mem_of_getElem? (i := 34) rfl)
theorem kz_X4_readInto : Cond.selects yX4_readInto.cls yX4_readInto yX4_readInto ∈ lw_g := wb_1_in _ (List.mem_of_getElem? (i := 35) rfl)
theorem kn_X4_readBox : Cond.instanceMethod yX4_readBox ∈ lw_g := wb_1_in _ (List.mem_of_getElem? (i := 36) rfl)
theorem ks_X4_checkedBy : Cond.static yX4_checkedBy ∈ lw_g := wb_1_in _ (List.mem_of_getElem? (i := 37) rfl)
theorem kn_X4_addPair : Cond.instanceMethod yX4_addPair ∈ lw_g := wb_1_in _ (List.mem_of_getElem? (i := 38) rfl)
theorem kn_X4_add : Cond.instanceMethod yX4_add ∈ lw_g := wb_1_in _ (List.mem_of_getElem? (i := 39) rfl)
def wb_2_l : List Cond := [Cond.instanceMethod yX5_clear, Cond.selects yX5_clear.cls yX5_clear yX5_clear, Cond.static yX5_shiftOf, Cond.instanceMethod yX5_hasSteers, Cond.selects yX5_hasSteers.cls yX5_hasSteers yX5_hasSteers, Cond.instanceMethod yX5_hasGoes, Cond.selects yX5_hasGoes.cls yX5_hasGoes yX5_hasGoes, Cond.instanceMethod yX5_hasBox, Cond.selects yX5_hasBox.cls yX5_hasBox yX5_hasBox, Cond.instanceMethod yX5_hasCell, Cond.selects yX5_hasCell.cls yX5_hasCell yX5_hasCell, Cond.instanceMethod yX5_greyAt, Cond.selects yX5_greyAt.cls yX5_greyAt yX5_greyAt, Cond.instanceMethod yX5_setGrey, Cond.selects yX5_setGrey.cls yX5_setGrey yX5_setGrey, Cond.instanceMethod yX5_boxNamed, Cond.selects yX5_boxNamed.cls yX5_boxNamed yX5_boxNamed, Cond.instanceMethod yX5_boxStartingOn, Cond.selects yX5_boxStartingOn.cls yX5_boxStartingOn yX5_boxStartingOn, Cond.instanceMethod yX5_addBox, Cond.selects yX5_addBox.cls yX5_addBox yX5_addBox, Cond.instanceMethod yX5_setStart, Cond.selects yX5_setStart.cls yX5_setStart yX5_setStart, Cond.instanceMethod yX5_emit, Cond.selects yX5_emit.cls yX5_emit yX5_emit, Cond.instanceMethod yX6_readInto, Cond.selects yX6_readInto.cls yX6_readInto yX6_readInto, Cond.instanceMethod yX6_readStatement, Cond.instanceMethod yX6_refuseOneTooMany, Cond.instanceMethod yX6_readFloor, Cond.instanceMethod yX6_readGrey, Cond.instanceMethod yX6_readBox, Cond.instanceMethod yX6_readEyes, Cond.instanceMethod yX6_readBias, Cond.instanceMethod yX6_readSetting, Cond.instanceMethod yX6_takeNewName, Cond.instanceMethod yX6_takeBoxName, Cond.instanceMethod yX7_hasSpaceFor, Cond.selects yX7_hasSpaceFor.cls yX7_hasSpaceFor yX7_hasSpaceFor, Cond.instanceMethod yX7_add]
theorem wb_2_in : ∀ w ∈ wb_2_l, w ∈ lw_g := lw_rows [54, 55, 197, 549, 550, 553, 554, 613, 614, 582, 583, 743, 744, 578, 579, 594, 595, 598, 599, 605, 606, 609, 610, 647, 648, 486, 487, 541, 546, 558, 575, 587, 618, 627, 702, 591, 622, 466, 467, 474] (by decide +kernel) (by decide +kernel)
theorem kn_X5_clear : Cond.instanceMethod yX5_clear ∈ lw_g := wb_2_in _ (List.mem_of_getElem? (i := 0) rfl)
theorem kz_X5_clear : Cond.selects yX5_clear.cls yX5_clear yX5_clear ∈ lw_g := wb_2_in _ (List.mem_of_getElem? (i := 1) rfl)
theorem ks_X5_shiftOf : Cond.static yX5_shiftOf ∈ lw_g := wb_2_in _ (List.mem_of_getElem? (i := 2) rfl)
theorem kn_X5_hasSteers : Cond.instanceMethod yX5_hasSteers ∈ lw_g := wb_2_in _ (List.mem_of_getElem? (i := 3) rfl)
theorem kz_X5_hasSteers : Cond.selects yX5_hasSteers.cls yX5_hasSteers yX5_hasSteers ∈ lw_g := wb_2_in _ (List.mem_of_getElem? (i := 4) rfl)
theorem kn_X5_hasGoes : Cond.instanceMethod yX5_hasGoes ∈ lw_g := wb_2_in _ (List.mem_of_getElem? (i := 5) rfl)
theorem kz_X5_hasGoes : Cond.selects yX5_hasGoes.cls yX5_hasGoes yX5_hasGoes ∈ lw_g := wb_2_in _ (List.mem_of_getElem? (i := 6) rfl)
theorem kn_X5_hasBox : Cond.instanceMethod yX5_hasBox ∈ lw_g := wb_2_in _ (List.mem_of_getElem? (i := 7) rfl)
theorem kz_X5_hasBox : Cond.selects yX5_hasBox.cls yX5_hasBox yX5_hasBox ∈ lw_g := wb_2_in _ (List.mem_of_getElem? (i := 8) rfl)
theorem kn_X5_hasCell : Cond.instanceMethod yX5_hasCell ∈ lw_g := wb_2_in _ (List.mem_of_getElem? (i := 9) rfl)
theorem kz_X5_hasCell : Cond.selects yX5_hasCell.cls yX5_hasCell yX5_hasCell ∈ lw_g := wb_2_in _ (List.mem_of_getElem? (i := 10) rfl)
theorem kn_X5_greyAt : Cond.instanceMethod yX5_greyAt ∈ lw_g := wb_2_in _ (List.mem_of_getElem? (i := 11) rfl)
theorem kz_X5_greyAt : Cond.selects yX5_greyAt.cls yX5_greyAt yX5_greyAt ∈ lw_g := wb_2_in _ (List.mem_of_getElem? (i := 12) rfl)
theorem kn_X5_setGrey : Cond.instanceMethod yX5_setGrey ∈ lw_g := wb_2_in _ (List.mem_of_getElem? (i := 13) rfl)
theorem kz_X5_setGrey : Cond.selects yX5_setGrey.cls yX5_setGrey yX5_setGrey ∈ lw_g := wb_2_in _ (List.mem_of_getElem? (i := 14) rfl)
theorem kn_X5_boxNamed : Cond.instanceMethod yX5_boxNamed ∈ lw_g := wb_2_in _ (List.mem_of_getElem? (i := 15) rfl)
theorem kz_X5_boxNamed : Cond.selects yX5_boxNamed.cls yX5_boxNamed yX5_boxNamed ∈ lw_g := wb_2_in _ (List.mem_of_getElem? (i := 16) rfl)
theorem kn_X5_boxStartingOn : Cond.instanceMethod yX5_boxStartingOn ∈ lw_g := wb_2_in _ (List.mem_of_getElem? (i := 17) rfl)
theorem kz_X5_boxStartingOn : Cond.selects yX5_boxStartingOn.cls yX5_boxStartingOn yX5_boxStartingOn ∈ lw_g := wb_2_in _ (List.mem_of_getElem? (i := 18) rfl)
theorem kn_X5_addBox : Cond.instanceMethod yX5_addBox ∈ lw_g := wb_2_in _ (List.mem_of_getElem? (i := 19) rfl)
theorem kz_X5_addBox : Cond.selects yX5_addBox.cls yX5_addBox yX5_addBox ∈ lw_g := wb_2_in _ (List.mem_of_getElem? (i := 20) rfl)
theorem kn_X5_setStart : Cond.instanceMethod yX5_setStart ∈ lw_g := wb_2_in _ (List.mem_of_getElem? (i := 21) rfl)
theorem kz_X5_setStart : Cond.selects yX5_setStart.cls yX5_setStart yX5_setStart ∈ lw_g := wb_2_in _ (List.mem_of_getElem? (i := 22) rfl)
theorem kn_X5_emit : Cond.instanceMethod yX5_emit ∈ lw_g := wb_2_in _ (List.mem_of_getElem? (i := 23) rfl)
theorem kz_X5_emit : Cond.selects yX5_emit.cls yX5_emit yX5_emit ∈ lw_g := wb_2_in _ (List.mem_of_getElem? (i := 24) rfl)
theorem kn_X6_readInto : Cond.instanceMethod yX6_readInto ∈ lw_g := wb_2_in _ (List.mem_of_getElem? (i := 25) rfl)
theorem kz_X6_readInto : Cond.selects yX6_readInto.cls yX6_readInto yX6_readInto ∈ lw_g := wb_2_in _ (List.mem_of_getElem? (i := 26) rfl)
theorem kn_X6_readStatement : Cond.instanceMethod yX6_readStatement ∈ lw_g := wb_2_in _ (List.mem_of_getElem? (i := 27) rfl)
theorem kn_X6_refuseOneTooMany : Cond.instanceMethod yX6_refuseOneTooMany ∈ lw_g := wb_2_in _ (List.mem_of_getElem? (i := 28) rfl)
theorem kn_X6_readFloor : Cond.instanceMethod yX6_readFloor ∈ lw_g := wb_2_in _ (List.mem_of_getElem? (i := 29) rfl)
theorem kn_X6_readGrey : Cond.instanceMethod yX6_readGrey ∈ lw_g := wb_2_in _ (List.mem_of_getElem? (i := 30) rfl)
theorem kn_X6_readBox : Cond.instanceMethod yX6_readBox ∈ lw_g := wb_2_in _ (List.mem_of_getElem? (i := 31) rfl)
theorem kn_X6_readEyes : Cond.instanceMethod yX6_readEyes ∈ lw_g := wb_2_in _ (List.mem_of_getElem? (i := 32) rfl)
theorem kn_X6_readBias : Cond.instanceMethod yX6_readBias ∈ lw_g := wb_2_in _ (List.mem_of_getElem? (i := 33) rfl)
theorem kn_X6_readSetting : Cond.instanceMethod yX6_readSetting ∈ lw_g := wb_2_in _ (List.mem_of_getElem? (i := 34) rfl)
theorem kn_X6_takeNewName : Cond.instanceMethod yX6_takeNewName ∈ lw_g := wb_2_in _ (List.mem_of_getElem? (i := 35) rfl)
theorem kn_X6_takeBoxName : Cond.instanceMethod yX6_takeBoxName ∈ lw_g := wb_2_in _ (List.mem_of_getElem? (i := 36) rfl)
theorem kn_X7_hasSpaceFor : Cond.instanceMethod yX7_hasSpaceFor ∈ lw_g := wb_2_in _ (List.mem_of_getElem? (i := 37) rfl)
theorem kz_X7_hasSpaceFor : Cond.selects yX7_hasSpaceFor.cls yX7_hasSpaceFor yX7_hasSpaceFor ∈ lw_g := wb_2_in _ (List.mem_of_getElem? (i := 38) rfl)
theorem kn_X7_add : Cond.instanceMethod yX7_add ∈ lw_g := wb_2_in _ (List.mem_of_getElem? (i := 39) rfl)
def wb_3_l : List Cond := [Cond.selects yX7_add.cls yX7_add yX7_add, Cond.instanceMethod yX7_at, Cond.selects yX7_at.cls yX7_at yX7_at, Cond.instanceMethod yX7_pairAt, Cond.selects yX7_pairAt.cls yX7_pairAt yX7_pairAt, Cond.instanceMethod yX8_open, Cond.selects yX8_open.cls yX8_open yX8_open, Cond.instanceMethod yX8_scan, Cond.instanceMethod yX8_startSolid, Cond.instanceMethod yX8_add, Cond.instanceMethod yX8_addLetter, Cond.instanceMethod yX8_addDigit, Cond.instanceMethod yX8_markOwnWord, Cond.static yX8_isBlank, Cond.static yX8_isLetter, Cond.static yX8_isDigit, Cond.instanceMethod yX8_refuseHere, Cond.selects yX8_refuseHere.cls yX8_refuseHere yX8_refuseHere, Cond.instanceMethod yX8_next, Cond.selects yX8_next.cls yX8_next yX8_next, Cond.instanceMethod yX8_refuseMore, Cond.selects yX8_refuseMore.cls yX8_refuseMore yX8_refuseMore, Cond.instanceMethod yX8_isMark, Cond.selects yX8_isMark.cls yX8_isMark yX8_isMark, Cond.instanceMethod yX8_isWord, Cond.selects yX8_isWord.cls yX8_isWord yX8_isWord, Cond.instanceMethod yX8_takeMark, Cond.selects yX8_takeMark.cls yX8_takeMark yX8_takeMark, Cond.instanceMethod yX8_takeWord, Cond.selects yX8_takeWord.cls yX8_takeWord yX8_takeWord, Cond.instanceMethod yX8_takeNumber, Cond.selects yX8_takeNumber.cls yX8_takeNumber yX8_takeNumber, Cond.instanceMethod yX9_forget, Cond.selects yX9_forget.cls yX9_forget yX9_forget, Cond.instanceMethod yX9_takeRows, Cond.selects yX9_takeRows.cls yX9_takeRows yX9_takeRows, Cond.instanceMethod yX9_biasBits, Cond.selects yX9_biasBits.cls yX9_biasBits yX9_biasBits, Cond.instanceMethod yX9_bitsLeft, Cond.instanceMethod yX9_tellingSteps]
theorem wb_3_in : ∀ w ∈ wb_3_l, w ∈ lw_g := lw_rows [475, 499, 500, 1140, 1141, 491, 492, 496, 514, 521, 510, 525, 529, 503, 506, 517, 536, 537, 532, 533, 706, 707, 651, 652, 570, 571, 660, 661, 566, 567, 562, 563, 723, 724, 975, 976, 985, 986, 1004, 1011] (by decide +kernel) (by decide +kernel)
theorem kz_X7_add : Cond.selects yX7_add.cls yX7_add yX7_add ∈ lw_g := wb_3_in _ (List.mem_of_getElem? (i := 0) rfl)
theorem kn_X7_at : Cond.instanceMethod yX7_at ∈ lw_g := wb_3_in _ (List.mem_of_getElem? (i := 1) rfl)
theorem kz_X7_at : Cond.selects yX7_at.cls yX7_at yX7_at ∈ lw_g := wb_3_in _ (List.mem_of_getElem? (i := 2) rfl)
theorem kn_X7_pairAt : Cond.instanceMethod yX7_pairAt ∈ lw_g := wb_3_in _ (List.mem_of_getElem? (i := 3) rfl)
theorem kz_X7_pairAt : Cond.selects yX7_pairAt.cls yX7_pairAt yX7_pairAt ∈ lw_g := wb_3_in _ (List.mem_of_getElem? (i := 4) rfl)
theorem kn_X8_open : Cond.instanceMethod yX8_open ∈ lw_g := wb_3_in _ (List.mem_of_getElem? (i := 5) rfl)
theorem kz_X8_open : Cond.selects yX8_open.cls yX8_open yX8_open ∈ lw_g := wb_3_in _ (List.mem_of_getElem? (i := 6) rfl)
theorem kn_X8_scan : Cond.instanceMethod yX8_scan ∈ lw_g := wb_3_in _ (List.mem_of_getElem? (i := 7) rfl)
theorem kn_X8_startSolid : Cond.instanceMethod yX8_startSolid ∈ lw_g := wb_3_in _ (List.mem_of_getElem? (i := 8) rfl)
theorem kn_X8_add : Cond.instanceMethod yX8_add ∈ lw_g := wb_3_in _ (List.mem_of_getElem? (i := 9) rfl)
theorem kn_X8_addLetter : Cond.instanceMethod yX8_addLetter ∈ lw_g := wb_3_in _ (List.mem_of_getElem? (i := 10) rfl)
theorem kn_X8_addDigit : Cond.instanceMethod yX8_addDigit ∈ lw_g := wb_3_in _ (List.mem_of_getElem? (i := 11) rfl)
theorem kn_X8_markOwnWord : Cond.instanceMethod yX8_markOwnWord ∈ lw_g := wb_3_in _ (List.mem_of_getElem? (i := 12) rfl)
theorem ks_X8_isBlank : Cond.static yX8_isBlank ∈ lw_g := wb_3_in _ (List.mem_of_getElem? (i := 13) rfl)
theorem ks_X8_isLetter : Cond.static yX8_isLetter ∈ lw_g := wb_3_in _ (List.mem_of_getElem? (i := 14) rfl)
theorem ks_X8_isDigit : Cond.static yX8_isDigit ∈ lw_g := wb_3_in _ (List.mem_of_getElem? (i := 15) rfl)
theorem kn_X8_refuseHere : Cond.instanceMethod yX8_refuseHere ∈ lw_g := wb_3_in _ (List.mem_of_getElem? (i := 16) rfl)
theorem kz_X8_refuseHere : Cond.selects yX8_refuseHere.cls yX8_refuseHere yX8_refuseHere ∈ lw_g := wb_3_in _ (List.mem_of_getElem? (i := 17) rfl)
theorem kn_X8_next : Cond.instanceMethod yX8_next ∈ lw_g := wb_3_in _ (List.mem_of_getElem? (i := 18) rfl)
theorem kz_X8_next : Cond.selects yX8_next.cls yX8_next yX8_next ∈ lw_g := wb_3_in _ (List.mem_of_getElem? (i := 19) rfl)
theorem kn_X8_refuseMore : Cond.instanceMethod yX8_refuseMore ∈ lw_g := wb_3_in _ (List.mem_of_getElem? (i := 20) rfl)
theorem kz_X8_refuseMore : Cond.selects yX8_refuseMore.cls yX8_refuseMore yX8_refuseMore ∈ lw_g := wb_3_in _ (List.mem_of_getElem? (i := 21) rfl)
theorem kn_X8_isMark : Cond.instanceMethod yX8_isMark ∈ lw_g := wb_3_in _ (List.mem_of_getElem? (i := 22) rfl)
theorem kz_X8_isMark : Cond.selects yX8_isMark.cls yX8_isMark yX8_isMark ∈ lw_g := wb_3_in _ (List.mem_of_getElem? (i := 23) rfl)
theorem kn_X8_isWord : Cond.instanceMethod yX8_isWord ∈ lw_g := wb_3_in _ (List.mem_of_getElem? (i := 24) rfl)
theorem kz_X8_isWord : Cond.selects yX8_isWord.cls yX8_isWord yX8_isWord ∈ lw_g := wb_3_in _ (List.mem_of_getElem? (i := 25) rfl)
theorem kn_X8_takeMark : Cond.instanceMethod yX8_takeMark ∈ lw_g := wb_3_in _ (List.mem_of_getElem? (i := 26) rfl)
theorem kz_X8_takeMark : Cond.selects yX8_takeMark.cls yX8_takeMark yX8_takeMark ∈ lw_g := wb_3_in _ (List.mem_of_getElem? (i := 27) rfl)
theorem kn_X8_takeWord : Cond.instanceMethod yX8_takeWord ∈ lw_g := wb_3_in _ (List.mem_of_getElem? (i := 28) rfl)
theorem kz_X8_takeWord : Cond.selects yX8_takeWord.cls yX8_takeWord yX8_takeWord ∈ lw_g := wb_3_in _ (List.mem_of_getElem? (i := 29) rfl)
theorem kn_X8_takeNumber : Cond.instanceMethod yX8_takeNumber ∈ lw_g := wb_3_in _ (List.mem_of_getElem? (i := 30) rfl)
theorem kz_X8_takeNumber : Cond.selects yX8_takeNumber.cls yX8_takeNumber yX8_takeNumber ∈ lw_g := wb_3_in _ (List.mem_of_getElem? (i := 31) rfl)
theorem kn_X9_forget : Cond.instanceMethod yX9_forget ∈ lw_g := wb_3_in _ (List.mem_of_getElem? (i := 32) rfl)
theorem kz_X9_forget : Cond.selects yX9_forget.cls yX9_forget yX9_forget ∈ lw_g := wb_3_in _ (List.mem_of_getElem? (i := 33) rfl)
theorem kn_X9_takeRows : Cond.instanceMethod yX9_takeRows ∈ lw_g := wb_3_in _ (List.mem_of_getElem? (i := 34) rfl)
theorem kz_X9_takeRows : Cond.selects yX9_takeRows.cls yX9_takeRows yX9_takeRows ∈ lw_g := wb_3_in _ (List.mem_of_getElem? (i := 35) rfl)
theorem kn_X9_biasBits : Cond.instanceMethod yX9_biasBits ∈ lw_g := wb_3_in _ (List.mem_of_getElem? (i := 36) rfl)
theorem kz_X9_biasBits : Cond.selects yX9_biasBits.cls yX9_biasBits yX9_biasBits ∈ lw_g := wb_3_in _ (List.mem_of_getElem? (i := 37) rfl)
theorem kn_X9_bitsLeft : Cond.instanceMethod yX9_bitsLeft ∈ lw_g := wb_3_in _ (List.mem_of_getElem? (i := 38) rfl)
theorem kn_X9_tellingSteps : Cond.instanceMethod yX9_tellingSteps ∈ lw_g := wb_3_in _ (List.mem_of_getElem? (i := 39) rfl)
def wb_4_l : List Cond := [Cond.selects yX9_tellingSteps.cls yX9_tellingSteps yX9_tellingSteps, Cond.instanceMethod yX9_followAll, Cond.instanceMethod yX9_placeOf, Cond.instanceMethod yX9_fitsRows, Cond.instanceMethod yX9_mostLeft, Cond.static yX10_columnStep, Cond.static yX10_rowStep, Cond.static yX10_boxIn, Cond.instanceMethod yX10_begin, Cond.selects yX10_begin.cls yX10_begin yX10_begin, Cond.instanceMethod yX10_copyFrom, Cond.selects yX10_copyFrom.cls yX10_copyFrom yX10_copyFrom, Cond.instanceMethod yX10_saveTo, Cond.selects yX10_saveTo.cls yX10_saveTo yX10_saveTo, Cond.instanceMethod yX10_loadFrom, Cond.selects yX10_loadFrom.cls yX10_loadFrom yX10_loadFrom, Cond.instanceMethod yX10_of, Cond.selects yX10_of.cls yX10_of yX10_of, Cond.instanceMethod yX10_set, Cond.selects yX10_set.cls yX10_set yX10_set, Cond.instanceMethod yX10_turnBy, Cond.selects yX10_turnBy.cls yX10_turnBy yX10_turnBy, Cond.instanceMethod yX10_comingSteps, Cond.selects yX10_comingSteps.cls yX10_comingSteps yX10_comingSteps, Cond.instanceMethod yX10_mayPass, Cond.selects yX10_mayPass.cls yX10_mayPass yX10_mayPass, Cond.instanceMethod yX10_boxOn, Cond.selects yX10_boxOn.cls yX10_boxOn yX10_boxOn, Cond.instanceMethod yX10_isBlack, Cond.selects yX10_isBlack.cls yX10_isBlack yX10_isBlack, Cond.instanceMethod yX10_onBlack, Cond.selects yX10_onBlack.cls yX10_onBlack yX10_onBlack, Cond.instanceMethod yX10_blackCells, Cond.selects yX10_blackCells.cls yX10_blackCells yX10_blackCells, Cond.instanceMethod yX10_lostBoxes, Cond.selects yX10_lostBoxes.cls yX10_lostBoxes yX10_lostBoxes, Cond.instanceMethod yX10_emptyBoxes, Cond.selects yX10_emptyBoxes.cls yX10_emptyBoxes yX10_emptyBoxes, Cond.instanceMethod yX10_greySeen, Cond.selects yX10_greySeen.cls yX10_greySeen yX10_greySeen]
theorem wb_4_in : ∀ w ∈ wb_4_l, w ∈ lw_g := lw_rows [1012, 990, 999, 1008, 1016, 797, 800, 602, 711, 712, 823, 824, 1031, 1032, 1084, 1085, 751, 752, 718, 719, 863, 864, 814, 815, 810, 811, 779, 780, 739, 740, 932, 933, 735, 736, 747, 748, 755, 756, 793, 794] (by decide +kernel) (by decide +kernel)
theorem kz_X9_tellingSteps : Cond.selects yX9_tellingSteps.cls yX9_tellingSteps yX9_tellingSteps ∈ lw_g := wb_4_in _ (List.mem_of_getElem? (i := 0) rfl)
theorem kn_X9_followAll : Cond.instanceMethod yX9_followAll ∈ lw_g := wb_4_in _ (List.mem_of_getElem? (i := 1) rfl)
theorem kn_X9_placeOf : Cond.instanceMethod yX9_placeOf ∈ lw_g := wb_4_in _ (List.mem_of_getElem? (i := 2) rfl)
theorem kn_X9_fitsRows : Cond.instanceMethod yX9_fitsRows ∈ lw_g := wb_4_in _ (List.mem_of_getElem? (i := 3) rfl)
theorem kn_X9_mostLeft : Cond.instanceMethod yX9_mostLeft ∈ lw_g := wb_4_in _ (List.mem_of_getElem? (i := 4) rfl)
theorem ks_X10_columnStep : Cond.static yX10_columnStep ∈ lw_g := wb_4_in _ (List.mem_of_getElem? (i := 5) rfl)
theorem ks_X10_rowStep : Cond.static yX10_rowStep ∈ lw_g := wb_4_in _ (List.mem_of_getElem? (i := 6) rfl)
theorem ks_X10_boxIn : Cond.static yX10_boxIn ∈ lw_g := wb_4_in _ (List.mem_of_getElem? (i := 7) rfl)
theorem kn_X10_begin : Cond.instanceMethod yX10_begin ∈ lw_g := wb_4_in _ (List.mem_of_getElem? (i := 8) rfl)
theorem kz_X10_begin : Cond.selects yX10_begin.cls yX10_begin yX10_begin ∈ lw_g := wb_4_in _ (List.mem_of_getElem? (i := 9) rfl)
theorem kn_X10_copyFrom : Cond.instanceMethod yX10_copyFrom ∈ lw_g := wb_4_in _ (List.mem_of_getElem? (i := 10) rfl)
theorem kz_X10_copyFrom : Cond.selects yX10_copyFrom.cls yX10_copyFrom yX10_copyFrom ∈ lw_g := wb_4_in _ (List.mem_of_getElem? (i := 11) rfl)
theorem kn_X10_saveTo : Cond.instanceMethod yX10_saveTo ∈ lw_g := wb_4_in _ (List.mem_of_getElem? (i := 12) rfl)
theorem kz_X10_saveTo : Cond.selects yX10_saveTo.cls yX10_saveTo yX10_saveTo ∈ lw_g := wb_4_in _ (List.mem_of_getElem? (i := 13) rfl)
theorem kn_X10_loadFrom : Cond.instanceMethod yX10_loadFrom ∈ lw_g := wb_4_in _ (List.mem_of_getElem? (i := 14) rfl)
theorem kz_X10_loadFrom : Cond.selects yX10_loadFrom.cls yX10_loadFrom yX10_loadFrom ∈ lw_g := wb_4_in _ (List.mem_of_getElem? (i := 15) rfl)
theorem kn_X10_of : Cond.instanceMethod yX10_of ∈ lw_g := wb_4_in _ (List.mem_of_getElem? (i := 16) rfl)
theorem kz_X10_of : Cond.selects yX10_of.cls yX10_of yX10_of ∈ lw_g := wb_4_in _ (List.mem_of_getElem? (i := 17) rfl)
theorem kn_X10_set : Cond.instanceMethod yX10_set ∈ lw_g := wb_4_in _ (List.mem_of_getElem? (i := 18) rfl)
theorem kz_X10_set : Cond.selects yX10_set.cls yX10_set yX10_set ∈ lw_g := wb_4_in _ (List.mem_of_getElem? (i := 19) rfl)
theorem kn_X10_turnBy : Cond.instanceMethod yX10_turnBy ∈ lw_g := wb_4_in _ (List.mem_of_getElem? (i := 20) rfl)
theorem kz_X10_turnBy : Cond.selects yX10_turnBy.cls yX10_turnBy yX10_turnBy ∈ lw_g := wb_4_in _ (List.mem_of_getElem? (i := 21) rfl)
theorem kn_X10_comingSteps : Cond.instanceMethod yX10_comingSteps ∈ lw_g := wb_4_in _ (List.mem_of_getElem? (i := 22) rfl)
theorem kz_X10_comingSteps : Cond.selects yX10_comingSteps.cls yX10_comingSteps yX10_comingSteps ∈ lw_g := wb_4_in _ (List.mem_of_getElem? (i := 23) rfl)
theorem kn_X10_mayPass : Cond.instanceMethod yX10_mayPass ∈ lw_g := wb_4_in _ (List.mem_of_getElem? (i := 24) rfl)
theorem kz_X10_mayPass : Cond.selects yX10_mayPass.cls yX10_mayPass yX10_mayPass ∈ lw_g := wb_4_in _ (List.mem_of_getElem? (i := 25) rfl)
theorem kn_X10_boxOn : Cond.instanceMethod yX10_boxOn ∈ lw_g := wb_4_in _ (List.mem_of_getElem? (i := 26) rfl)
theorem kz_X10_boxOn : Cond.selects yX10_boxOn.cls yX10_boxOn yX10_boxOn ∈ lw_g := wb_4_in _ (List.mem_of_getElem? (i := 27) rfl)
theorem kn_X10_isBlack : Cond.instanceMethod yX10_isBlack ∈ lw_g := wb_4_in _ (List.mem_of_getElem? (i := 28) rfl)
theorem kz_X10_isBlack : Cond.selects yX10_isBlack.cls yX10_isBlack yX10_isBlack ∈ lw_g := wb_4_in _ (List.mem_of_getElem? (i := 29) rfl)
theorem kn_X10_onBlack : Cond.instanceMethod yX10_onBlack ∈ lw_g := wb_4_in _ (List.mem_of_getElem? (i := 30) rfl)
theorem kz_X10_onBlack : Cond.selects yX10_onBlack.cls yX10_onBlack yX10_onBlack ∈ lw_g := wb_4_in _ (List.mem_of_getElem? (i := 31) rfl)
theorem kn_X10_blackCells : Cond.instanceMethod yX10_blackCells ∈ lw_g := wb_4_in _ (List.mem_of_getElem? (i := 32) rfl)
theorem kz_X10_blackCells : Cond.selects yX10_blackCells.cls yX10_blackCells yX10_blackCells ∈ lw_g := wb_4_in _ (List.mem_of_getElem? (i := 33) rfl)
theorem kn_X10_lostBoxes : Cond.instanceMethod yX10_lostBoxes ∈ lw_g := wb_4_in _ (List.mem_of_getElem? (i := 34) rfl)
theorem kz_X10_lostBoxes : Cond.selects yX10_lostBoxes.cls yX10_lostBoxes yX10_lostBoxes ∈ lw_g := wb_4_in _ (List.mem_of_getElem? (i := 35) rfl)
theorem kn_X10_emptyBoxes : Cond.instanceMethod yX10_emptyBoxes ∈ lw_g := wb_4_in _ (List.mem_of_getElem? (i := 36) rfl)
theorem kz_X10_emptyBoxes : Cond.selects yX10_emptyBoxes.cls yX10_emptyBoxes yX10_emptyBoxes ∈ lw_g := wb_4_in _ (List.mem_of_getElem? (i := 37) rfl)
theorem kn_X10_greySeen : Cond.instanceMethod yX10_greySeen ∈ lw_g := wb_4_in _ (List.mem_of_getElem? (i := 38) rfl)
theorem kz_X10_greySeen : Cond.selects yX10_greySeen.cls yX10_greySeen yX10_greySeen ∈ lw_g := wb_4_in _ (List.mem_of_getElem? (i := 39) rfl)
def wb_5_l : List Cond := [Cond.instanceMethod yX10_pass, Cond.selects yX10_pass.cls yX10_pass yX10_pass, Cond.instanceMethod yX10_moveBox, Cond.instanceMethod yX10_goAhead, Cond.instanceMethod yX11_feed, Cond.selects yX11_feed.cls yX11_feed yX11_feed, Cond.instanceMethod yX11_end, Cond.selects yX11_end.cls yX11_end yX11_end, Cond.instanceMethod yX11_kitchen, Cond.selects yX11_kitchen.cls yX11_kitchen yX11_kitchen, Cond.instanceMethod yX11_fault, Cond.selects yX11_fault.cls yX11_fault yX11_fault, Cond.instanceMethod yX11_has, Cond.selects yX11_has.cls yX11_has yX11_has, Cond.instanceMethod yX11_letter, Cond.selects yX11_letter.cls yX11_letter yX11_letter, Cond.instanceMethod yX11_cell, Cond.selects yX11_cell.cls yX11_cell yX11_cell, Cond.instanceMethod yX11_box, Cond.selects yX11_box.cls yX11_box yX11_box, Cond.instanceMethod yX11_sees, Cond.selects yX11_sees.cls yX11_sees yX11_sees, Cond.instanceMethod yX11_later, Cond.selects yX11_later.cls yX11_later yX11_later, Cond.instanceMethod yX11_round, Cond.selects yX11_round.cls yX11_round yX11_round, Cond.instanceMethod yX11_loses, Cond.selects yX11_loses.cls yX11_loses yX11_loses, Cond.instanceMethod yX11_jam, Cond.selects yX11_jam.cls yX11_jam yX11_jam, Cond.instanceMethod yX11_gap, Cond.selects yX11_gap.cls yX11_gap yX11_gap, Cond.instanceMethod yX11_tuned, Cond.selects yX11_tuned.cls yX11_tuned yX11_tuned, Cond.instanceMethod yX11_found, Cond.selects yX11_found.cls yX11_found yX11_found, Cond.instanceMethod yX11_spaced, Cond.selects yX11_spaced.cls yX11_spaced yX11_spaced, Cond.instanceMethod yX11_bright, Cond.selects yX11_bright.cls yX11_bright yX11_bright]
theorem wb_5_in : ∀ w ∈ wb_5_l, w ∈ lw_g := lw_rows [828, 829, 833, 869, 462, 463, 478, 479, 482, 483, 727, 728, 731, 732, 766, 767, 772, 773, 784, 785, 789, 790, 806, 807, 875, 876, 888, 889, 896, 897, 904, 905, 920, 921, 936, 937, 954, 955, 962, 963] (by decide +kernel) (by decide +kernel)
theorem kn_X10_pass : Cond.instanceMethod yX10_pass ∈ lw_g := wb_5_in _ (List.mem_of_getElem? (i := 0) rfl)
theorem kz_X10_pass : Cond.selects yX10_pass.cls yX10_pass yX10_pass ∈ lw_g := wb_5_in _ (List.mem_of_getElem? (i := 1) rfl)
theorem kn_X10_moveBox : Cond.instanceMethod yX10_moveBox ∈ lw_g := wb_5_in _ (List.mem_of_getElem? (i := 2) rfl)
theorem kn_X10_goAhead : Cond.instanceMethod yX10_goAhead ∈ lw_g := wb_5_in _ (List.mem_of_getElem? (i := 3) rfl)
theorem kn_X11_feed : Cond.instanceMethod yX11_feed ∈ lw_g := wb_5_in _ (List.mem_of_getElem? (i := 4) rfl)
theorem kz_X11_feed : Cond.selects yX11_feed.cls yX11_feed yX11_feed ∈ lw_g := wb_5_in _ (List.mem_of_getElem? (i := 5) rfl)
theorem kn_X11_end : Cond.instanceMethod yX11_end ∈ lw_g := wb_5_in _ (List.mem_of_getElem? (i := 6) rfl)
theorem kz_X11_end : Cond.selects yX11_end.cls yX11_end yX11_end ∈ lw_g := wb_5_in _ (List.mem_of_getElem? (i := 7) rfl)
theorem kn_X11_kitchen : Cond.instanceMethod yX11_kitchen ∈ lw_g := wb_5_in _ (List.mem_of_getElem? (i := 8) rfl)
theorem kz_X11_kitchen : Cond.selects yX11_kitchen.cls yX11_kitchen yX11_kitchen ∈ lw_g := wb_5_in _ (List.mem_of_getElem? (i := 9) rfl)
theorem kn_X11_fault : Cond.instanceMethod yX11_fault ∈ lw_g := wb_5_in _ (List.mem_of_getElem? (i := 10) rfl)
theorem kz_X11_fault : Cond.selects yX11_fault.cls yX11_fault yX11_fault ∈ lw_g := wb_5_in _ (List.mem_of_getElem? (i := 11) rfl)
theorem kn_X11_has : Cond.instanceMethod yX11_has ∈ lw_g := wb_5_in _ (List.mem_of_getElem? (i := 12) rfl)
theorem kz_X11_has : Cond.selects yX11_has.cls yX11_has yX11_has ∈ lw_g := wb_5_in _ (List.mem_of_getElem? (i := 13) rfl)
theorem kn_X11_letter : Cond.instanceMethod yX11_letter ∈ lw_g := wb_5_in _ (List.mem_of_getElem? (i := 14) rfl)
theorem kz_X11_letter : Cond.selects yX11_letter.cls yX11_letter yX11_letter ∈ lw_g := wb_5_in _ (List.mem_of_getElem? (i := 15) rfl)
theorem kn_X11_cell : Cond.instanceMethod yX11_cell ∈ lw_g := wb_5_in _ (List.mem_of_getElem? (i := 16) rfl)
theorem kz_X11_cell : Cond.selects yX11_cell.cls yX11_cell yX11_cell ∈ lw_g := wb_5_in _ (List.mem_of_getElem? (i := 17) rfl)
theorem kn_X11_box : Cond.instanceMethod yX11_box ∈ lw_g := wb_5_in _ (List.mem_of_getElem? (i := 18) rfl)
theorem kz_X11_box : Cond.selects yX11_box.cls yX11_box yX11_box ∈ lw_g := wb_5_in _ (List.mem_of_getElem? (i := 19) rfl)
theorem kn_X11_sees : Cond.instanceMethod yX11_sees ∈ lw_g := wb_5_in _ (List.mem_of_getElem? (i := 20) rfl)
theorem kz_X11_sees : Cond.selects yX11_sees.cls yX11_sees yX11_sees ∈ lw_g := wb_5_in _ (List.mem_of_getElem? (i := 21) rfl)
theorem kn_X11_later : Cond.instanceMethod yX11_later ∈ lw_g := wb_5_in _ (List.mem_of_getElem? (i := 22) rfl)
theorem kz_X11_later : Cond.selects yX11_later.cls yX11_later yX11_later ∈ lw_g := wb_5_in _ (List.mem_of_getElem? (i := 23) rfl)
theorem kn_X11_round : Cond.instanceMethod yX11_round ∈ lw_g := wb_5_in _ (List.mem_of_getElem? (i := 24) rfl)
theorem kz_X11_round : Cond.selects yX11_round.cls yX11_round yX11_round ∈ lw_g := wb_5_in _ (List.mem_of_getElem? (i := 25) rfl)
theorem kn_X11_loses : Cond.instanceMethod yX11_loses ∈ lw_g := wb_5_in _ (List.mem_of_getElem? (i := 26) rfl)
theorem kz_X11_loses : Cond.selects yX11_loses.cls yX11_loses yX11_loses ∈ lw_g := wb_5_in _ (List.mem_of_getElem? (i := 27) rfl)
theorem kn_X11_jam : Cond.instanceMethod yX11_jam ∈ lw_g := wb_5_in _ (List.mem_of_getElem? (i := 28) rfl)
theorem kz_X11_jam : Cond.selects yX11_jam.cls yX11_jam yX11_jam ∈ lw_g := wb_5_in _ (List.mem_of_getElem? (i := 29) rfl)
theorem kn_X11_gap : Cond.instanceMethod yX11_gap ∈ lw_g := wb_5_in _ (List.mem_of_getElem? (i := 30) rfl)
theorem kz_X11_gap : Cond.selects yX11_gap.cls yX11_gap yX11_gap ∈ lw_g := wb_5_in _ (List.mem_of_getElem? (i := 31) rfl)
theorem kn_X11_tuned : Cond.instanceMethod yX11_tuned ∈ lw_g := wb_5_in _ (List.mem_of_getElem? (i := 32) rfl)
theorem kz_X11_tuned : Cond.selects yX11_tuned.cls yX11_tuned yX11_tuned ∈ lw_g := wb_5_in _ (List.mem_of_getElem? (i := 33) rfl)
theorem kn_X11_found : Cond.instanceMethod yX11_found ∈ lw_g := wb_5_in _ (List.mem_of_getElem? (i := 34) rfl)
theorem kz_X11_found : Cond.selects yX11_found.cls yX11_found yX11_found ∈ lw_g := wb_5_in _ (List.mem_of_getElem? (i := 35) rfl)
theorem kn_X11_spaced : Cond.instanceMethod yX11_spaced ∈ lw_g := wb_5_in _ (List.mem_of_getElem? (i := 36) rfl)
theorem kz_X11_spaced : Cond.selects yX11_spaced.cls yX11_spaced yX11_spaced ∈ lw_g := wb_5_in _ (List.mem_of_getElem? (i := 37) rfl)
theorem kn_X11_bright : Cond.instanceMethod yX11_bright ∈ lw_g := wb_5_in _ (List.mem_of_getElem? (i := 38) rfl)
theorem kz_X11_bright : Cond.selects yX11_bright.cls yX11_bright yX11_bright ∈ lw_g := wb_5_in _ (List.mem_of_getElem? (i := 39) rfl)
def wb_6_l : List Cond := [Cond.instanceMethod yX11_track, Cond.selects yX11_track.cls yX11_track yX11_track, Cond.instanceMethod yX11_wheel, Cond.selects yX11_wheel.cls yX11_wheel yX11_wheel, Cond.instanceMethod yX11_steps, Cond.selects yX11_steps.cls yX11_steps yX11_steps, Cond.instanceMethod yX11_chance, Cond.selects yX11_chance.cls yX11_chance yX11_chance, Cond.instanceMethod yX11_turn, Cond.selects yX11_turn.cls yX11_turn yX11_turn, Cond.instanceMethod yX11_put, Cond.selects yX11_put.cls yX11_put yX11_put, Cond.instanceMethod yX11_shine, Cond.selects yX11_shine.cls yX11_shine yX11_shine, Cond.instanceMethod yX11_undo, Cond.selects yX11_undo.cls yX11_undo yX11_undo, Cond.instanceMethod yX11_seed, Cond.selects yX11_seed.cls yX11_seed yX11_seed, Cond.instanceMethod yX11_kept, Cond.selects yX11_kept.cls yX11_kept yX11_kept, Cond.instanceMethod yX11_image, Cond.selects yX11_image.cls yX11_image yX11_image, Cond.instanceMethod yX11_octet, Cond.selects yX11_octet.cls yX11_octet yX11_octet, Cond.instanceMethod yX11_on, Cond.selects yX11_on.cls yX11_on yX11_on, Cond.instanceMethod yX11_status, Cond.selects yX11_status.cls yX11_status yX11_status, Cond.instanceMethod yX11_refuse, Cond.instanceMethod yX11_passStep, Cond.instanceMethod yX11_letCatCome, Cond.instanceMethod yX11_draw, Cond.static yX12_is, Cond.instanceMethod yX12_put, Cond.instanceMethod yX12_feed, Cond.selects yX12_feed.cls yX12_feed yX12_feed, Cond.instanceMethod yX12_end, Cond.selects yX12_end.cls yX12_end yX12_end, Cond.instanceMethod yX12_blame, Cond.static yX12_isLetter]
theorem wb_6_in : ∀ w ∈ wb_6_l, w ∈ lw_g := lw_rows [971, 972, 981, 982, 1020, 1021, 1046, 1047, 1063, 1064, 1068, 1069, 1072, 1073, 1076, 1077, 1088, 1089, 1092, 1093, 1101, 1102, 1125, 1126, 1130, 1131, 1152, 1153, 471, 1037, 1051, 1055, 1439, 1393, 1384, 1385, 1396, 1397, 1428, 1408] (by decide +kernel) (by decide +kernel)
theorem kn_X11_track : Cond.instanceMethod yX11_track ∈ lw_g := wb_6_in _ (List.mem_of_getElem? (i := 0) rfl)
theorem kz_X11_track : Cond.selects yX11_track.cls yX11_track yX11_track ∈ lw_g := wb_6_in _ (List.mem_of_getElem? (i := 1) rfl)
theorem kn_X11_wheel : Cond.instanceMethod yX11_wheel ∈ lw_g := wb_6_in _ (List.mem_of_getElem? (i := 2) rfl)
theorem kz_X11_wheel : Cond.selects yX11_wheel.cls yX11_wheel yX11_wheel ∈ lw_g := wb_6_in _ (List.mem_of_getElem? (i := 3) rfl)
theorem kn_X11_steps : Cond.instanceMethod yX11_steps ∈ lw_g := wb_6_in _ (List.mem_of_getElem? (i := 4) rfl)
theorem kz_X11_steps : Cond.selects yX11_steps.cls yX11_steps yX11_steps ∈ lw_g := wb_6_in _ (List.mem_of_getElem? (i := 5) rfl)
theorem kn_X11_chance : Cond.instanceMethod yX11_chance ∈ lw_g := wb_6_in _ (List.mem_of_getElem? (i := 6) rfl)
theorem kz_X11_chance : Cond.selects yX11_chance.cls yX11_chance yX11_chance ∈ lw_g := wb_6_in _ (List.mem_of_getElem? (i := 7) rfl)
theorem kn_X11_turn : Cond.instanceMethod yX11_turn ∈ lw_g := wb_6_in _ (List.mem_of_getElem? (i := 8) rfl)
theorem kz_X11_turn : Cond.selects yX11_turn.cls yX11_turn yX11_turn ∈ lw_g := wb_6_in _ (List.mem_of_getElem? (i := 9) rfl)
theorem kn_X11_put : Cond.instanceMethod yX11_put ∈ lw_g := wb_6_in _ (List.mem_of_getElem? (i := 10) rfl)
theorem kz_X11_put : Cond.selects yX11_put.cls yX11_put yX11_put ∈ lw_g := wb_6_in _ (List.mem_of_getElem? (i := 11) rfl)
theorem kn_X11_shine : Cond.instanceMethod yX11_shine ∈ lw_g := wb_6_in _ (List.mem_of_getElem? (i := 12) rfl)
theorem kz_X11_shine : Cond.selects yX11_shine.cls yX11_shine yX11_shine ∈ lw_g := wb_6_in _ (List.mem_of_getElem? (i := 13) rfl)
theorem kn_X11_undo : Cond.instanceMethod yX11_undo ∈ lw_g := wb_6_in _ (List.mem_of_getElem? (i := 14) rfl)
theorem kz_X11_undo : Cond.selects yX11_undo.cls yX11_undo yX11_undo ∈ lw_g := wb_6_in _ (List.mem_of_getElem? (i := 15) rfl)
theorem kn_X11_seed : Cond.instanceMethod yX11_seed ∈ lw_g := wb_6_in _ (List.mem_of_getElem? (i := 16) rfl)
theorem kz_X11_seed : Cond.selects yX11_seed.cls yX11_seed yX11_seed ∈ lw_g := wb_6_in _ (List.mem_of_getElem? (i := 17) rfl)
theorem kn_X11_kept : Cond.instanceMethod yX11_kept ∈ lw_g := wb_6_in _ (List.mem_of_getElem? (i := 18) rfl)
theorem kz_X11_kept : Cond.selects yX11_kept.cls yX11_kept yX11_kept ∈ lw_g := wb_6_in _ (List.mem_of_getElem? (i := 19) rfl)
theorem kn_X11_image : Cond.instanceMethod yX11_image ∈ lw_g := wb_6_in _ (List.mem_of_getElem? (i := 20) rfl)
theorem kz_X11_image : Cond.selects yX11_image.cls yX11_image yX11_image ∈ lw_g := wb_6_in _ (List.mem_of_getElem? (i := 21) rfl)
theorem kn_X11_octet : Cond.instanceMethod yX11_octet ∈ lw_g := wb_6_in _ (List.mem_of_getElem? (i := 22) rfl)
theorem kz_X11_octet : Cond.selects yX11_octet.cls yX11_octet yX11_octet ∈ lw_g := wb_6_in _ (List.mem_of_getElem? (i := 23) rfl)
theorem kn_X11_on : Cond.instanceMethod yX11_on ∈ lw_g := wb_6_in _ (List.mem_of_getElem? (i := 24) rfl)
theorem kz_X11_on : Cond.selects yX11_on.cls yX11_on yX11_on ∈ lw_g := wb_6_in _ (List.mem_of_getElem? (i := 25) rfl)
theorem kn_X11_status : Cond.instanceMethod yX11_status ∈ lw_g := wb_6_in _ (List.mem_of_getElem? (i := 26) rfl)
theorem kz_X11_status : Cond.selects yX11_status.cls yX11_status yX11_status ∈ lw_g := wb_6_in _ (List.mem_of_getElem? (i := 27) rfl)
theorem kn_X11_refuse : Cond.instanceMethod yX11_refuse ∈ lw_g := wb_6_in _ (List.mem_of_getElem? (i := 28) rfl)
theorem kn_X11_passStep : Cond.instanceMethod yX11_passStep ∈ lw_g := wb_6_in _ (List.mem_of_getElem? (i := 29) rfl)
theorem kn_X11_letCatCome : Cond.instanceMethod yX11_letCatCome ∈ lw_g := wb_6_in _ (List.mem_of_getElem? (i := 30) rfl)
theorem kn_X11_draw : Cond.instanceMethod yX11_draw ∈ lw_g := wb_6_in _ (List.mem_of_getElem? (i := 31) rfl)
theorem ks_X12_is : Cond.static yX12_is ∈ lw_g := wb_6_in _ (List.mem_of_getElem? (i := 32) rfl)
theorem kn_X12_put : Cond.instanceMethod yX12_put ∈ lw_g := wb_6_in _ (List.mem_of_getElem? (i := 33) rfl)
theorem kn_X12_feed : Cond.instanceMethod yX12_feed ∈ lw_g := wb_6_in _ (List.mem_of_getElem? (i := 34) rfl)
theorem kz_X12_feed : Cond.selects yX12_feed.cls yX12_feed yX12_feed ∈ lw_g := wb_6_in _ (List.mem_of_getElem? (i := 35) rfl)
theorem kn_X12_end : Cond.instanceMethod yX12_end ∈ lw_g := wb_6_in _ (List.mem_of_getElem? (i := 36) rfl)
theorem kz_X12_end : Cond.selects yX12_end.cls yX12_end yX12_end ∈ lw_g := wb_6_in _ (List.mem_of_getElem? (i := 37) rfl)
theorem kn_X12_blame : Cond.instanceMethod yX12_blame ∈ lw_g := wb_6_in _ (List.mem_of_getElem? (i := 38) rfl)
theorem ks_X12_isLetter : Cond.static yX12_isLetter ∈ lw_g := wb_6_in _ (List.mem_of_getElem? (i := 39) rfl)
def wb_7_l : List Cond := [Cond.static yX12_isDigit, Cond.instanceMethod yX12_lex, Cond.instanceMethod yX12_ahead, Cond.instanceMethod yX12_isSign, Cond.instanceMethod yX12_isWord, Cond.instanceMethod yX12_must, Cond.instanceMethod yX12_isOwn, Cond.instanceMethod yX12_isDefault, Cond.instanceMethod yX12_toldOf, Cond.instanceMethod yX12_named, Cond.instanceMethod yX12_number, Cond.instanceMethod yX12_add, Cond.static yX12_rank, Cond.instanceMethod yX12_joins, Cond.instanceMethod yX12_holdsBack, Cond.instanceMethod yX12_pushes, Cond.instanceMethod yX12_opens, Cond.static yX12_isTest, Cond.instanceMethod yX12_operand, Cond.instanceMethod yX12_goesOn, Cond.instanceMethod yX12_reads, Cond.instanceMethod yX12_counts, Cond.instanceMethod yX12_must_, Cond.instanceMethod yX12_fresh, Cond.instanceMethod yX12_known, Cond.instanceMethod yX12_begins, Cond.instanceMethod yX12_greying, Cond.instanceMethod yX12_boxing, Cond.instanceMethod yX12_eyeing, Cond.instanceMethod yX12_biasing, Cond.instanceMethod yX12_reading, Cond.instanceMethod yX12_telling, Cond.instanceMethod yX12_statement, Cond.instanceMethod yX12_finishes, Cond.instanceMethod yX12_kitchen, Cond.selects yX12_kitchen.cls yX12_kitchen yX12_kitchen, Cond.instanceMethod yX12_fault, Cond.selects yX12_fault.cls yX12_fault yX12_fault, Cond.instanceMethod yX12_refuses, Cond.instanceMethod yX12_status]
theorem wb_7_in : ∀ w ∈ wb_7_l, w ∈ lw_g := lw_rows [1411, 1424, 1405, 1448, 1432, 1452, 1478, 1163, 1572, 1506, 1436, 1549, 1560, 1557, 1541, 1530, 1545, 1537, 1534, 1553, 1526, 1465, 1420, 1474, 1514, 1415, 1461, 1470, 1510, 1518, 1522, 1564, 1456, 1444, 1400, 1401, 1575, 1576, 1389, 1579] (by decide +kernel) (by decide +kernel)
theorem ks_X12_isDigit : Cond.static yX12_isDigit ∈ lw_g := wb_7_in _ (List.mem_of_getElem? (i := 0) rfl)
theorem kn_X12_lex : Cond.instanceMethod yX12_lex ∈ lw_g := wb_7_in _ (List.mem_of_getElem? (i := 1) rfl)
theorem kn_X12_ahead : Cond.instanceMethod yX12_ahead ∈ lw_g := wb_7_in _ (List.mem_of_getElem? (i := 2) rfl)
theorem kn_X12_isSign : Cond.instanceMethod yX12_isSign ∈ lw_g := wb_7_in _ (List.mem_of_getElem? (i := 3) rfl)
theorem kn_X12_isWord : Cond.instanceMethod yX12_isWord ∈ lw_g := wb_7_in _ (List.mem_of_getElem? (i := 4) rfl)
theorem kn_X12_must : Cond.instanceMethod yX12_must ∈ lw_g := wb_7_in _ (List.mem_of_getElem? (i := 5) rfl)
theorem kn_X12_isOwn : Cond.instanceMethod yX12_isOwn ∈ lw_g := wb_7_in _ (List.mem_of_getElem? (i := 6) rfl)
theorem kn_X12_isDefault : Cond.instanceMethod yX12_isDefault ∈ lw_g := wb_7_in _ (List.mem_of_getElem? (i := 7) rfl)
theorem kn_X12_toldOf : Cond.instanceMethod yX12_toldOf ∈ lw_g := wb_7_in _ (List.mem_of_getElem? (i := 8) rfl)
theorem kn_X12_named : Cond.instanceMethod yX12_named ∈ lw_g := wb_7_in _ (List.mem_of_getElem? (i := 9) rfl)
theorem kn_X12_number : Cond.instanceMethod yX12_number ∈ lw_g := wb_7_in _ (List.mem_of_getElem? (i := 10) rfl)
theorem kn_X12_add : Cond.instanceMethod yX12_add ∈ lw_g := wb_7_in _ (List.mem_of_getElem? (i := 11) rfl)
theorem ks_X12_rank : Cond.static yX12_rank ∈ lw_g := wb_7_in _ (List.mem_of_getElem? (i := 12) rfl)
theorem kn_X12_joins : Cond.instanceMethod yX12_joins ∈ lw_g := wb_7_in _ (List.mem_of_getElem? (i := 13) rfl)
theorem kn_X12_holdsBack : Cond.instanceMethod yX12_holdsBack ∈ lw_g := wb_7_in _ (List.mem_of_getElem? (i := 14) rfl)
theorem kn_X12_pushes : Cond.instanceMethod yX12_pushes ∈ lw_g := wb_7_in _ (List.mem_of_getElem? (i := 15) rfl)
theorem kn_X12_opens : Cond.instanceMethod yX12_opens ∈ lw_g := wb_7_in _ (List.mem_of_getElem? (i := 16) rfl)
theorem ks_X12_isTest : Cond.static yX12_isTest ∈ lw_g := wb_7_in _ (List.mem_of_getElem? (i := 17) rfl)
theorem kn_X12_operand : Cond.instanceMethod yX12_operand ∈ lw_g := wb_7_in _ (List.mem_of_getElem? (i := 18) rfl)
theorem kn_X12_goesOn : Cond.instanceMethod yX12_goesOn ∈ lw_g := wb_7_in _ (List.mem_of_getElem? (i := 19) rfl)
theorem kn_X12_reads : Cond.instanceMethod yX12_reads ∈ lw_g := wb_7_in _ (List.mem_of_getElem? (i := 20) rfl)
theorem kn_X12_counts : Cond.instanceMethod yX12_counts ∈ lw_g := wb_7_in _ (List.mem_of_getElem? (i := 21) rfl)
theorem kn_X12_must_ : Cond.instanceMethod yX12_must_ ∈ lw_g := wb_7_in _ (List.mem_of_getElem? (i := 22) rfl)
theorem kn_X12_fresh : Cond.instanceMethod yX12_fresh ∈ lw_g := wb_7_in _ (List.mem_of_getElem? (i := 23) rfl)
theorem kn_X12_known : Cond.instanceMethod yX12_known ∈ lw_g := wb_7_in _ (List.mem_of_getElem? (i := 24) rfl)
theorem kn_X12_begins : Cond.instanceMethod yX12_begins ∈ lw_g := wb_7_in _ (List.mem_of_getElem? (i := 25) rfl)
theorem kn_X12_greying : Cond.instanceMethod yX12_greying ∈ lw_g := wb_7_in _ (List.mem_of_getElem? (i := 26) rfl)
theorem kn_X12_boxing : Cond.instanceMethod yX12_boxing ∈ lw_g := wb_7_in _ (List.mem_of_getElem? (i := 27) rfl)
theorem kn_X12_eyeing : Cond.instanceMethod yX12_eyeing ∈ lw_g := wb_7_in _ (List.mem_of_getElem? (i := 28) rfl)
theorem kn_X12_biasing : Cond.instanceMethod yX12_biasing ∈ lw_g := wb_7_in _ (List.mem_of_getElem? (i := 29) rfl)
theorem kn_X12_reading : Cond.instanceMethod yX12_reading ∈ lw_g := wb_7_in _ (List.mem_of_getElem? (i := 30) rfl)
theorem kn_X12_telling : Cond.instanceMethod yX12_telling ∈ lw_g := wb_7_in _ (List.mem_of_getElem? (i := 31) rfl)
theorem kn_X12_statement : Cond.instanceMethod yX12_statement ∈ lw_g := wb_7_in _ (List.mem_of_getElem? (i := 32) rfl)
theorem kn_X12_finishes : Cond.instanceMethod yX12_finishes ∈ lw_g := wb_7_in _ (List.mem_of_getElem? (i := 33) rfl)
theorem kn_X12_kitchen : Cond.instanceMethod yX12_kitchen ∈ lw_g := wb_7_in _ (List.mem_of_getElem? (i := 34) rfl)
theorem kz_X12_kitchen : Cond.selects yX12_kitchen.cls yX12_kitchen yX12_kitchen ∈ lw_g := wb_7_in _ (List.mem_of_getElem? (i := 35) rfl)
theorem kn_X12_fault : Cond.instanceMethod yX12_fault ∈ lw_g := wb_7_in _ (List.mem_of_getElem? (i := 36) rfl)
theorem kz_X12_fault : Cond.selects yX12_fault.cls yX12_fault yX12_fault ∈ lw_g := wb_7_in _ (List.mem_of_getElem? (i := 37) rfl)
theorem kn_X12_refuses : Cond.instanceMethod yX12_refuses ∈ lw_g := wb_7_in _ (List.mem_of_getElem? (i := 38) rfl)
theorem kn_X12_status : Cond.instanceMethod yX12_status ∈ lw_g := wb_7_in _ (List.mem_of_getElem? (i := 39) rfl)
def wb_8_l : List Cond := [Cond.selects yX12_status.cls yX12_status yX12_status, Cond.instanceMethod yX12_copies, Cond.instanceMethod yX12_begin, Cond.instanceMethod yX12_slot, Cond.instanceMethod yX12_keeps, Cond.instanceMethod yX12_undo, Cond.selects yX12_undo.cls yX12_undo yX12_undo, Cond.static yX12_held, Cond.static yX12_floor, Cond.static yX12_two, Cond.instanceMethod yX12_reckons, Cond.instanceMethod yX12_isTold, Cond.instanceMethod yX12_isOn, Cond.static yX12_columnBy, Cond.static yX12_rowBy, Cond.instanceMethod yX12_off, Cond.instanceMethod yX12_seen, Cond.instanceMethod yX12_isBlack, Cond.instanceMethod yX12_apart, Cond.instanceMethod yX12_on, Cond.instanceMethod yX12_bias, Cond.instanceMethod yX12_eye, Cond.instanceMethod yX12_who, Cond.instanceMethod yX12_writesDown, Cond.instanceMethod yX12_steers, Cond.instanceMethod yX12_does, Cond.instanceMethod yX12_passes, Cond.static yX12_bits, Cond.instanceMethod yX12_isBox, Cond.instanceMethod yX12_has, Cond.selects yX12_has.cls yX12_has yX12_has, Cond.instanceMethod yX12_letter, Cond.selects yX12_letter.cls yX12_letter yX12_letter, Cond.instanceMethod yX12_cell, Cond.selects yX12_cell.cls yX12_cell yX12_cell, Cond.instanceMethod yX12_box, Cond.selects yX12_box.cls yX12_box yX12_box, Cond.instanceMethod yX12_sees, Cond.selects yX12_sees.cls yX12_sees yX12_sees, Cond.instanceMethod yX12_isAhead]
theorem wb_8_in : ∀ w ∈ wb_8_l, w ∈ lw_g := lw_rows [1580, 1592, 1568, 1588, 1766, 1583, 1584, 1689, 1694, 1686, 1683, 1679, 1600, 1652, 1655, 1649, 1608, 1604, 1641, 1645, 1702, 1637, 1625, 1698, 1675, 1671, 1667, 1769, 1616, 1595, 1596, 1611, 1612, 1620, 1621, 1628, 1629, 1632, 1633, 1663] (by decide +kernel) (by decide +kernel)
theorem kz_X12_status : Cond.selects yX12_status.cls yX12_status yX12_status ∈ lw_g := wb_8_in _ (List.mem_of_getElem? (i := 0) rfl)
theorem kn_X12_copies : Cond.instanceMethod yX12_copies ∈ lw_g := wb_8_in _ (List.mem_of_getElem? (i := 1) rfl)
theorem kn_X12_begin : Cond.instanceMethod yX12_begin ∈ lw_g := wb_8_in _ (List.mem_of_getElem? (i := 2) rfl)
theorem kn_X12_slot : Cond.instanceMethod yX12_slot ∈ lw_g := wb_8_in _ (List.mem_of_getElem? (i := 3) rfl)
theorem kn_X12_keeps : Cond.instanceMethod yX12_keeps ∈ lw_g := wb_8_in _ (List.mem_of_getElem? (i := 4) rfl)
theorem kn_X12_undo : Cond.instanceMethod yX12_undo ∈ lw_g := wb_8_in _ (List.mem_of_getElem? (i := 5) rfl)
theorem kz_X12_undo : Cond.selects yX12_undo.cls yX12_undo yX12_undo ∈ lw_g := wb_8_in _ (List.mem_of_getElem? (i := 6) rfl)
theorem ks_X12_held : Cond.static yX12_held ∈ lw_g := wb_8_in _ (List.mem_of_getElem? (i := 7) rfl)
theorem ks_X12_floor : Cond.static yX12_floor ∈ lw_g := wb_8_in _ (List.mem_of_getElem? (i := 8) rfl)
theorem ks_X12_two : Cond.static yX12_two ∈ lw_g := wb_8_in _ (List.mem_of_getElem? (i := 9) rfl)
theorem kn_X12_reckons : Cond.instanceMethod yX12_reckons ∈ lw_g := wb_8_in _ (List.mem_of_getElem? (i := 10) rfl)
theorem kn_X12_isTold : Cond.instanceMethod yX12_isTold ∈ lw_g := wb_8_in _ (List.mem_of_getElem? (i := 11) rfl)
theorem kn_X12_isOn : Cond.instanceMethod yX12_isOn ∈ lw_g := wb_8_in _ (List.mem_of_getElem? (i := 12) rfl)
theorem ks_X12_columnBy : Cond.static yX12_columnBy ∈ lw_g := wb_8_in _ (List.mem_of_getElem? (i := 13) rfl)
theorem ks_X12_rowBy : Cond.static yX12_rowBy ∈ lw_g := wb_8_in _ (List.mem_of_getElem? (i := 14) rfl)
theorem kn_X12_off : Cond.instanceMethod yX12_off ∈ lw_g := wb_8_in _ (List.mem_of_getElem? (i := 15) rfl)
theorem kn_X12_seen : Cond.instanceMethod yX12_seen ∈ lw_g := wb_8_in _ (List.mem_of_getElem? (i := 16) rfl)
theorem kn_X12_isBlack : Cond.instanceMethod yX12_isBlack ∈ lw_g := wb_8_in _ (List.mem_of_getElem? (i := 17) rfl)
theorem kn_X12_apart : Cond.instanceMethod yX12_apart ∈ lw_g := wb_8_in _ (List.mem_of_getElem? (i := 18) rfl)
theorem kn_X12_on : Cond.instanceMethod yX12_on ∈ lw_g := wb_8_in _ (List.mem_of_getElem? (i := 19) rfl)
theorem kn_X12_bias : Cond.instanceMethod yX12_bias ∈ lw_g := wb_8_in _ (List.mem_of_getElem? (i := 20) rfl)
theorem kn_X12_eye : Cond.instanceMethod yX12_eye ∈ lw_g := wb_8_in _ (List.mem_of_getElem? (i := 21) rfl)
theorem kn_X12_who : Cond.instanceMethod yX12_who ∈ lw_g := wb_8_in _ (List.mem_of_getElem? (i := 22) rfl)
theorem kn_X12_writesDown : Cond.instanceMethod yX12_writesDown ∈ lw_g := wb_8_in _ (List.mem_of_getElem? (i := 23) rfl)
theorem kn_X12_steers : Cond.instanceMethod yX12_steers ∈ lw_g := wb_8_in _ (List.mem_of_getElem? (i := 24) rfl)
theorem kn_X12_does : Cond.instanceMethod yX12_does ∈ lw_g := wb_8_in _ (List.mem_of_getElem? (i := 25) rfl)
theorem kn_X12_passes : Cond.instanceMethod yX12_passes ∈ lw_g := wb_8_in _ (List.mem_of_getElem? (i := 26) rfl)
theorem ks_X12_bits : Cond.static yX12_bits ∈ lw_g := wb_8_in _ (List.mem_of_getElem? (i := 27) rfl)
theorem kn_X12_isBox : Cond.instanceMethod yX12_isBox ∈ lw_g := wb_8_in _ (List.mem_of_getElem? (i := 28) rfl)
theorem kn_X12_has : Cond.instanceMethod yX12_has ∈ lw_g := wb_8_in _ (List.mem_of_getElem? (i := 29) rfl)
theorem kz_X12_has : Cond.selects yX12_has.cls yX12_has yX12_has ∈ lw_g := wb_8_in _ (List.mem_of_getElem? (i := 30) rfl)
theorem kn_X12_letter : Cond.instanceMethod yX12_letter ∈ lw_g := wb_8_in _ (List.mem_of_getElem? (i := 31) rfl)
theorem kz_X12_letter : Cond.selects yX12_letter.cls yX12_letter yX12_letter ∈ lw_g := wb_8_in _ (List.mem_of_getElem? (i := 32) rfl)
theorem kn_X12_cell : Cond.instanceMethod yX12_cell ∈ lw_g := wb_8_in _ (List.mem_of_getElem? (i := 33) rfl)
theorem kz_X12_cell : Cond.selects yX12_cell.cls yX12_cell yX12_cell ∈ lw_g := wb_8_in _ (List.mem_of_getElem? (i := 34) rfl)
theorem kn_X12_box : Cond.instanceMethod yX12_box ∈ lw_g := wb_8_in _ (List.mem_of_getElem? (i := 35) rfl)
theorem kz_X12_box : Cond.selects yX12_box.cls yX12_box yX12_box ∈ lw_g := wb_8_in _ (List.mem_of_getElem? (i := 36) rfl)
theorem kn_X12_sees : Cond.instanceMethod yX12_sees ∈ lw_g := wb_8_in _ (List.mem_of_getElem? (i := 37) rfl)
theorem kz_X12_sees : Cond.selects yX12_sees.cls yX12_sees yX12_sees ∈ lw_g := wb_8_in _ (List.mem_of_getElem? (i := 38) rfl)
theorem kn_X12_isAhead : Cond.instanceMethod yX12_isAhead ∈ lw_g := wb_8_in _ (List.mem_of_getElem? (i := 39) rfl)
def wb_9_l : List Cond := [Cond.instanceMethod yX12_later, Cond.selects yX12_later.cls yX12_later yX12_later, Cond.instanceMethod yX12_round, Cond.selects yX12_round.cls yX12_round yX12_round, Cond.instanceMethod yX12_loses, Cond.selects yX12_loses.cls yX12_loses yX12_loses, Cond.instanceMethod yX12_jam, Cond.selects yX12_jam.cls yX12_jam yX12_jam, Cond.static yX12_away, Cond.instanceMethod yX12_gap, Cond.selects yX12_gap.cls yX12_gap yX12_gap, Cond.instanceMethod yX12_tuned, Cond.selects yX12_tuned.cls yX12_tuned yX12_tuned, Cond.instanceMethod yX12_moves, Cond.instanceMethod yX12_found, Cond.selects yX12_found.cls yX12_found yX12_found, Cond.instanceMethod yX12_spaced, Cond.selects yX12_spaced.cls yX12_spaced yX12_spaced, Cond.instanceMethod yX12_bright, Cond.selects yX12_bright.cls yX12_bright yX12_bright, Cond.instanceMethod yX12_track, Cond.selects yX12_track.cls yX12_track yX12_track, Cond.instanceMethod yX12_walks, Cond.instanceMethod yX12_isTrack, Cond.instanceMethod yX12_wheel, Cond.selects yX12_wheel.cls yX12_wheel yX12_wheel, Cond.instanceMethod yX12_steps, Cond.selects yX12_steps.cls yX12_steps yX12_steps, Cond.instanceMethod yX12_draw, Cond.instanceMethod yX12_chance, Cond.selects yX12_chance.cls yX12_chance yX12_chance, Cond.instanceMethod yX12_turn, Cond.selects yX12_turn.cls yX12_turn yX12_turn, Cond.instanceMethod yX12_put_, Cond.selects yX12_put_.cls yX12_put_ yX12_put_, Cond.instanceMethod yX12_shine, Cond.selects yX12_shine.cls yX12_shine yX12_shine, Cond.instanceMethod yX12_seed, Cond.selects yX12_seed.cls yX12_seed yX12_seed, Cond.instanceMethod yX12_kept]
theorem wb_9_in : ∀ w ∈ wb_9_l, w ∈ lw_g := lw_rows [1658, 1659, 1705, 1706, 1709, 1710, 1713, 1714, 1721, 1717, 1718, 1724, 1725, 1733, 1728, 1729, 1736, 1737, 1740, 1741, 1744, 1745, 1753, 1757, 1748, 1749, 1761, 1762, 1777, 1772, 1773, 1784, 1785, 1788, 1789, 1792, 1793, 1796, 1797, 1800] (by decide +kernel) (by decide +kernel)
theorem kn_X12_later : Cond.instanceMethod yX12_later ∈ lw_g := wb_9_in _ (List.mem_of_getElem? (i := 0) rfl)
theorem kz_X12_later : Cond.selects yX12_later.cls yX12_later yX12_later ∈ lw_g := wb_9_in _ (List.mem_of_getElem? (i := 1) rfl)
theorem kn_X12_round : Cond.instanceMethod yX12_round ∈ lw_g := wb_9_in _ (List.mem_of_getElem? (i := 2) rfl)
theorem kz_X12_round : Cond.selects yX12_round.cls yX12_round yX12_round ∈ lw_g := wb_9_in _ (List.mem_of_getElem? (i := 3) rfl)
theorem kn_X12_loses : Cond.instanceMethod yX12_loses ∈ lw_g := wb_9_in _ (List.mem_of_getElem? (i := 4) rfl)
theorem kz_X12_loses : Cond.selects yX12_loses.cls yX12_loses yX12_loses ∈ lw_g := wb_9_in _ (List.mem_of_getElem? (i := 5) rfl)
theorem kn_X12_jam : Cond.instanceMethod yX12_jam ∈ lw_g := wb_9_in _ (List.mem_of_getElem? (i := 6) rfl)
theorem kz_X12_jam : Cond.selects yX12_jam.cls yX12_jam yX12_jam ∈ lw_g := wb_9_in _ (List.mem_of_getElem? (i := 7) rfl)
theorem ks_X12_away : Cond.static yX12_away ∈ lw_g := wb_9_in _ (List.mem_of_getElem? (i := 8) rfl)
theorem kn_X12_gap : Cond.instanceMethod yX12_gap ∈ lw_g := wb_9_in _ (List.mem_of_getElem? (i := 9) rfl)
theorem kz_X12_gap : Cond.selects yX12_gap.cls yX12_gap yX12_gap ∈ lw_g := wb_9_in _ (List.mem_of_getElem? (i := 10) rfl)
theorem kn_X12_tuned : Cond.instanceMethod yX12_tuned ∈ lw_g := wb_9_in _ (List.mem_of_getElem? (i := 11) rfl)
theorem kz_X12_tuned : Cond.selects yX12_tuned.cls yX12_tuned yX12_tuned ∈ lw_g := wb_9_in _ (List.mem_of_getElem? (i := 12) rfl)
theorem kn_X12_moves : Cond.instanceMethod yX12_moves ∈ lw_g := wb_9_in _ (List.mem_of_getElem? (i := 13) rfl)
theorem kn_X12_found : Cond.instanceMethod yX12_found ∈ lw_g := wb_9_in _ (List.mem_of_getElem? (i := 14) rfl)
theorem kz_X12_found : Cond.selects yX12_found.cls yX12_found yX12_found ∈ lw_g := wb_9_in _ (List.mem_of_getElem? (i := 15) rfl)
theorem kn_X12_spaced : Cond.instanceMethod yX12_spaced ∈ lw_g := wb_9_in _ (List.mem_of_getElem? (i := 16) rfl)
theorem kz_X12_spaced : Cond.selects yX12_spaced.cls yX12_spaced yX12_spaced ∈ lw_g := wb_9_in _ (List.mem_of_getElem? (i := 17) rfl)
theorem kn_X12_bright : Cond.instanceMethod yX12_bright ∈ lw_g := wb_9_in _ (List.mem_of_getElem? (i := 18) rfl)
theorem kz_X12_bright : Cond.selects yX12_bright.cls yX12_bright yX12_bright ∈ lw_g := wb_9_in _ (List.mem_of_getElem? (i := 19) rfl)
theorem kn_X12_track : Cond.instanceMethod yX12_track ∈ lw_g := wb_9_in _ (List.mem_of_getElem? (i := 20) rfl)
theorem kz_X12_track : Cond.selects yX12_track.cls yX12_track yX12_track ∈ lw_g := wb_9_in _ (List.mem_of_getElem? (i := 21) rfl)
theorem kn_X12_walks : Cond.instanceMethod yX12_walks ∈ lw_g := wb_9_in _ (List.mem_of_getElem? (i := 22) rfl)
theorem kn_X12_isTrack : Cond.instanceMethod yX12_isTrack ∈ lw_g := wb_9_in _ (List.mem_of_getElem? (i := 23) rfl)
theorem kn_X12_wheel : Cond.instanceMethod yX12_wheel ∈ lw_g := wb_9_in _ (List.mem_of_getElem? (i := 24) rfl)
theorem kz_X12_wheel : Cond.selects yX12_wheel.cls yX12_wheel yX12_wheel ∈ lw_g := wb_9_in _ (List.mem_of_getElem? (i := 25) rfl)
theorem kn_X12_steps : Cond.instanceMethod yX12_steps ∈ lw_g := wb_9_in _ (List.mem_of_getElem? (i := 26) rfl)
theorem kz_X12_steps : Cond.selects yX12_steps.cls yX12_steps yX12_steps ∈ lw_g := wb_9_in _ (List.mem_of_getElem? (i := 27) rfl)
theorem kn_X12_draw : Cond.instanceMethod yX12_draw ∈ lw_g := wb_9_in _ (List.mem_of_getElem? (i := 28) rfl)
theorem kn_X12_chance : Cond.instanceMethod yX12_chance ∈ lw_g := wb_9_in _ (List.mem_of_getElem? (i := 29) rfl)
theorem kz_X12_chance : Cond.selects yX12_chance.cls yX12_chance yX12_chance ∈ lw_g := wb_9_in _ (List.mem_of_getElem? (i := 30) rfl)
theorem kn_X12_turn : Cond.instanceMethod yX12_turn ∈ lw_g := wb_9_in _ (List.mem_of_getElem? (i := 31) rfl)
theorem kz_X12_turn : Cond.selects yX12_turn.cls yX12_turn yX12_turn ∈ lw_g := wb_9_in _ (List.mem_of_getElem? (i := 32) rfl)
theorem kn_X12_put_ : Cond.instanceMethod yX12_put_ ∈ lw_g := wb_9_in _ (List.mem_of_getElem? (i := 33) rfl)
theorem kz_X12_put_ : Cond.selects yX12_put_.cls yX12_put_ yX12_put_ ∈ lw_g := wb_9_in _ (List.mem_of_getElem? (i := 34) rfl)
theorem kn_X12_shine : Cond.instanceMethod yX12_shine ∈ lw_g := wb_9_in _ (List.mem_of_getElem? (i := 35) rfl)
theorem kz_X12_shine : Cond.selects yX12_shine.cls yX12_shine yX12_shine ∈ lw_g := wb_9_in _ (List.mem_of_getElem? (i := 36) rfl)
theorem kn_X12_seed : Cond.instanceMethod yX12_seed ∈ lw_g := wb_9_in _ (List.mem_of_getElem? (i := 37) rfl)
theorem kz_X12_seed : Cond.selects yX12_seed.cls yX12_seed yX12_seed ∈ lw_g := wb_9_in _ (List.mem_of_getElem? (i := 38) rfl)
theorem kn_X12_kept : Cond.instanceMethod yX12_kept ∈ lw_g := wb_9_in _ (List.mem_of_getElem? (i := 39) rfl)
def wb_10_l : List Cond := [Cond.selects yX12_kept.cls yX12_kept yX12_kept, Cond.instanceMethod yX12_writes, Cond.instanceMethod yX12_writesTwo, Cond.instanceMethod yX12_image, Cond.selects yX12_image.cls yX12_image yX12_image, Cond.instanceMethod yX12_octet, Cond.selects yX12_octet.cls yX12_octet yX12_octet, Cond.instanceMethod yX12_twoBytes, Cond.instanceMethod yX12_boxOn, Cond.instanceMethod yX12_comesOn, Cond.instanceMethod yX12_on_, Cond.selects yX12_on_.cls yX12_on_ yX12_on_, Cond.static yJ9_floorDiv_f86c9, Cond.static yJ9_floorMod_7cf53, Cond.static yJ9_floorMod_f86c9, Cond.static yJ9_abs_0f7a4, Cond.static yJ9_max_7cf53, Cond.static yJ9_max_f86c9, Cond.static yJ9_min_7cf53, Cond.static yJ9_min_f86c9, Cond.static yJ7_fill_53178, Cond.methodLink RX0 5 objectInit, Cond.fieldLink RX0 13 (TX0 1).1 (TX0 1).2.1 (TX0 1).2.2.1, Cond.fieldLink RX0 17 (TX0 2).1 (TX0 2).2.1 (TX0 2).2.2.1, Cond.methodLink RX0 22 yX10_init, Cond.fieldLink RX0 25 (TX0 0).1 (TX0 0).2.1 (TX0 0).2.2.1, Cond.fieldLink RX0 29 (TX0 3).1 (TX0 3).2.1 (TX0 3).2.2.1, Cond.methodLink RX0 33 yX10_copyFrom, Cond.methodLink RX0 37 yX10_set, Cond.methodLink RX0 41 yX10_pass, Cond.methodLink RX0 45 yX10_of, Cond.methodLink RX0 49 yX10_comingSteps, Cond.methodLink RX0 53 yX0_isAsIn, Cond.fieldLink RX0 57 (TX10 7).1 (TX10 7).2.1 (TX10 7).2.2.1, Cond.fieldLink RX0 60 (TX10 6).1 (TX10 6).2.1 (TX10 6).2.2.1, Cond.methodLink RX0 63 yX0_distance, Cond.methodLink RX0 66 yJ9_min_7cf53, Cond.methodLink RX0 71 yJ9_abs_0f7a4, Cond.methodLink RX0 74 yX0_blackSteps, Cond.methodLink RX0 77 yX10_onBlack]
theorem wb_10_in : ∀ w ∈ wb_10_l, w ∈ lw_g := lw_rows [1801, 1813, 1809, 1804, 1805, 1816, 1817, 1829, 1833, 1825, 1820, 1821, 849, 1028, 852, 916, 803, 858, 763, 855, 58, 335, 339, 340, 337, 338, 341, 822, 826, 827, 873, 882, 883, 312, 309, 911, 918, 915, 927, 931] (by decide +kernel) (by decide +kernel)
theorem kz_X12_kept : Cond.selects yX12_kept.cls yX12_kept yX12_kept ∈ lw_g := wb_10_in _ (List.mem_of_getElem? (i := 0) rfl)
theorem kn_X12_writes : Cond.instanceMethod yX12_writes ∈ lw_g := wb_10_in _ (List.mem_of_getElem? (i := 1) rfl)
theorem kn_X12_writesTwo : Cond.instanceMethod yX12_writesTwo ∈ lw_g := wb_10_in _ (List.mem_of_getElem? (i := 2) rfl)
theorem kn_X12_image : Cond.instanceMethod yX12_image ∈ lw_g := wb_10_in _ (List.mem_of_getElem? (i := 3) rfl)
theorem kz_X12_image : Cond.selects yX12_image.cls yX12_image yX12_image ∈ lw_g := wb_10_in _ (List.mem_of_getElem? (i := 4) rfl)
theorem kn_X12_octet : Cond.instanceMethod yX12_octet ∈ lw_g := wb_10_in _ (List.mem_of_getElem? (i := 5) rfl)
theorem kz_X12_octet : Cond.selects yX12_octet.cls yX12_octet yX12_octet ∈ lw_g := wb_10_in _ (List.mem_of_getElem? (i := 6) rfl)
theorem kn_X12_twoBytes : Cond.instanceMethod yX12_twoBytes ∈ lw_g := wb_10_in _ (List.mem_of_getElem? (i := 7) rfl)
theorem kn_X12_boxOn : Cond.instanceMethod yX12_boxOn ∈ lw_g := wb_10_in _ (List.mem_of_getElem? (i := 8) rfl)
theorem kn_X12_comesOn : Cond.instanceMethod yX12_comesOn ∈ lw_g := wb_10_in _ (List.mem_of_getElem? (i := 9) rfl)
theorem kn_X12_on_ : Cond.instanceMethod yX12_on_ ∈ lw_g := wb_10_in _ (List.mem_of_getElem? (i := 10) rfl)
theorem kz_X12_on_ : Cond.selects yX12_on_.cls yX12_on_ yX12_on_ ∈ lw_g := wb_10_in _ (List.mem_of_getElem? (i := 11) rfl)
theorem ks_J9_floorDiv_f86c9 : Cond.static yJ9_floorDiv_f86c9 ∈ lw_g := wb_10_in _ (List.mem_of_getElem? (i := 12) rfl)
theorem ks_J9_floorMod_7cf53 : Cond.static yJ9_floorMod_7cf53 ∈ lw_g := wb_10_in _ (List.mem_of_getElem? (i := 13) rfl)
theorem ks_J9_floorMod_f86c9 : Cond.static yJ9_floorMod_f86c9 ∈ lw_g := wb_10_in _ (List.mem_of_getElem? (i := 14) rfl)
theorem ks_J9_abs_0f7a4 : Cond.static yJ9_abs_0f7a4 ∈ lw_g := wb_10_in _ (List.mem_of_getElem? (i := 15) rfl)
theorem ks_J9_max_7cf53 : Cond.static yJ9_max_7cf53 ∈ lw_g := wb_10_in _ (List.mem_of_getElem? (i := 16) rfl)
theorem ks_J9_max_f86c9 : Cond.static yJ9_max_f86c9 ∈ lw_g := wb_10_in _ (List.mem_of_getElem? (i := 17) rfl)
theorem ks_J9_min_7cf53 : Cond.static yJ9_min_7cf53 ∈ lw_g := wb_10_in _ (List.mem_of_getElem? (i := 18) rfl)
theorem ks_J9_min_f86c9 : Cond.static yJ9_min_f86c9 ∈ lw_g := wb_10_in _ (List.mem_of_getElem? (i := 19) rfl)
theorem ks_J7_fill_53178 : Cond.static yJ7_fill_53178 ∈ lw_g := wb_10_in _ (List.mem_of_getElem? (i := 20) rfl)
theorem lm_X0_5 : Cond.methodLink RX0 5 objectInit ∈ lw_g := wb_10_in _ (List.mem_of_getElem? (i := 21) rfl)
theorem lf_X0_13 : Cond.fieldLink RX0 13 (TX0 1).1 (TX0 1).2.1 (TX0 1).2.2.1 ∈ lw_g := wb_10_in _ (List.mem_of_getElem? (i := 22) rfl)
theorem lf_X0_17 : Cond.fieldLink RX0 17 (TX0 2).1 (TX0 2).2.1 (TX0 2).2.2.1 ∈ lw_g := wb_10_in _ (List.mem_of_getElem? (i := 23) rfl)
theorem lm_X0_22 : Cond.methodLink RX0 22 yX10_init ∈ lw_g := wb_10_in _ (List.mem_of_getElem? (i := 24) rfl)
theorem lf_X0_25 : Cond.fieldLink RX0 25 (TX0 0).1 (TX0 0).2.1 (TX0 0).2.2.1 ∈ lw_g := wb_10_in _ (List.mem_of_getElem? (i := 25) rfl)
theorem lf_X0_29 : Cond.fieldLink RX0 29 (TX0 3).1 (TX0 3).2.1 (TX0 3).2.2.1 ∈ lw_g := wb_10_in _ (List.mem_of_getElem? (i := 26) rfl)
theorem lm_X0_33 : Cond.methodLink RX0 33 yX10_copyFrom ∈ lw_g := wb_10_in _ (List.mem_of_getElem? (i := 27) rfl)
theorem lm_X0_37 : Cond.methodLink RX0 37 yX10_set ∈ lw_g := wb_10_in _ (List.mem_of_getElem? (i := 28) rfl)
theorem lm_X0_41 : Cond.methodLink RX0 41 yX10_pass ∈ lw_g := wb_10_in _ (List.mem_of_getElem? (i := 29) rfl)
theorem lm_X0_45 : Cond.methodLink RX0 45 yX10_of ∈ lw_g := wb_10_in _ (List.mem_of_getElem? (i := 30) rfl)
theorem lm_X0_49 : Cond.methodLink RX0 49 yX10_comingSteps ∈ lw_g := wb_10_in _ (List.mem_of_getElem? (i := 31) rfl)
theorem lm_X0_53 : Cond.methodLink RX0 53 yX0_isAsIn ∈ lw_g := wb_10_in _ (List.mem_of_getElem? (i := 32) rfl)
theorem lf_X0_57 : Cond.fieldLink RX0 57 (TX10 7).1 (TX10 7).2.1 (TX10 7).2.2.1 ∈ lw_g := wb_10_in _ (List.mem_of_getElem? (i := 33) rfl)
theorem lf_X0_60 : Cond.fieldLink RX0 60 (TX10 6).1 (TX10 6).2.1 (TX10 6).2.2.1 ∈ lw_g := wb_10_in _ (List.mem_of_getElem? (i := 34) rfl)
theorem lm_X0_63 : Cond.methodLink RX0 63 yX0_distance ∈ lw_g := wb_10_in _ (List.mem_of_getElem? (i := 35) rfl)
theorem lm_X0_66 : Cond.methodLink RX0 66 yJ9_min_7cf53 ∈ lw_g := wb_10_in _ (List.mem_of_getElem? (i := 36) rfl)
theorem lm_X0_71 : Cond.methodLink RX0 71 yJ9_abs_0f7a4 ∈ lw_g := wb_10_in _ (List.mem_of_getElem? (i := 37) rfl)
theorem lm_X0_74 : Cond.methodLink RX0 74 yX0_blackSteps ∈ lw_g := wb_10_in _ (List.mem_of_getElem? (i := 38) rfl)
theorem lm_X0_77 : Cond.methodLink RX0 77 yX10_onBlack ∈ lw_g := wb_10_in _ (List.mem_of_getElem? (i := 39) rfl)
def wb_11_l : List Cond := [Cond.methodLink RX0 81 yJ7_fill_53178, Cond.methodLink RX0 87 yX0_reach, Cond.methodLink RX0 91 yX10_isBlack, Cond.methodLink RX0 95 yX10_columnStep, Cond.methodLink RX0 98 yX10_rowStep, Cond.methodLink RX0 101 yX10_boxOn, Cond.fieldLink RX0 104 (TX10 3).1 (TX10 3).2.1 (TX10 3).2.2.1, Cond.methodLink RX0 108 yX5_hasCell, Cond.fieldLink RX0 111 (TX10 5).1 (TX10 5).2.1 (TX10 5).2.2.1, Cond.methodLink RX0 114 yX10_lostBoxes, Cond.methodLink RX1 3 objectInit, Cond.fieldLink RX1 9 (TX1 0).1 (TX1 0).2.1 (TX1 0).2.2.1, Cond.fieldLink RX1 15 (TX1 1).1 (TX1 1).2.1 (TX1 1).2.2.1, Cond.fieldLink RX1 19 (TX1 2).1 (TX1 2).2.1 (TX1 2).2.2.1, Cond.methodLink RX1 23 yX8_next, Cond.fieldLink RX1 28 (TX5 4).1 (TX5 4).2.1 (TX5 4).2.2.1, Cond.fieldLink RX1 34 (TX5 5).1 (TX5 5).2.1 (TX5 5).2.2.1, Cond.methodLink RX1 37 yX1_sum, Cond.fieldLink RX1 41 (TX5 6).1 (TX5 6).2.1 (TX5 6).2.2.1, Cond.fieldLink RX1 44 (TX5 7).1 (TX5 7).2.1 (TX5 7).2.2.1, Cond.methodLink RX1 47 yX1_test, Cond.fieldLink RX1 50 (TX5 8).1 (TX5 8).2.1 (TX5 8).2.2.1, Cond.methodLink RX1 53 yX1_both, Cond.methodLink RX1 58 yX8_isWord, Cond.methodLink RX1 64 yX5_emit, Cond.methodLink RX1 68 yX1_fact, Cond.methodLink RX1 71 yX1_passOpening, Cond.methodLink RX1 74 yX8_isMark, Cond.methodLink RX1 78 yX8_takeMark, Cond.methodLink RX1 82 yX1_comparison, Cond.methodLink RX1 85 yX8_refuseHere, Cond.methodLink RX1 88 yX1_product, Cond.methodLink RX1 91 yX1_part, Cond.methodLink RX1 94 yX1_productSign, Cond.fieldLink RX1 98 (TX8 7).1 (TX8 7).2.1 (TX8 7).2.2.1, Cond.fieldLink RX1 101 (TX8 9).1 (TX8 9).2.1 (TX8 9).2.2.1, Cond.methodLink RX1 104 yX1_choice, Cond.methodLink RX1 107 yX1_known, Cond.methodLink RX1 110 yX1_knownOf, Cond.methodLink RX2 1 objectInit]
theorem wb_11_in : ∀ w ∈ wb_11_l, w ∈ lw_g := lw_rows [943, 944, 948, 949, 950, 951, 299, 952, 307, 969, 248, 249, 250, 251, 633, 67, 69, 634, 73, 76, 669, 79, 673, 664, 646, 677, 654, 650, 659, 681, 658, 638, 642, 692, 207, 211, 665, 685, 689, 281] (by decide +kernel) (by decide +kernel)
theorem lm_X0_81 : Cond.methodLink RX0 81 yJ7_fill_53178 ∈ lw_g := wb_11_in _ (List.mem_of_getElem? (i := 0) rfl)
theorem lm_X0_87 : Cond.methodLink RX0 87 yX0_reach ∈ lw_g := wb_11_in _ (List.mem_of_getElem? (i := 1) rfl)
theorem lm_X0_91 : Cond.methodLink RX0 91 yX10_isBlack ∈ lw_g := wb_11_in _ (List.mem_of_getElem? (i := 2) rfl)
theorem lm_X0_95 : Cond.methodLink RX0 95 yX10_columnStep ∈ lw_g := wb_11_in _ (List.mem_of_getElem? (i := 3) rfl)
theorem lm_X0_98 : Cond.methodLink RX0 98 yX10_rowStep ∈ lw_g := wb_11_in _ (List.mem_of_getElem? (i := 4) rfl)
theorem lm_X0_101 : Cond.methodLink RX0 101 yX10_boxOn ∈ lw_g := wb_11_in _ (List.mem_of_getElem? (i := 5) rfl)
theorem lf_X0_104 : Cond.fieldLink RX0 104 (TX10 3).1 (TX10 3).2.1 (TX10 3).2.2.1 ∈ lw_g := wb_11_in _ (List.mem_of_getElem? (i := 6) rfl)
theorem lm_X0_108 : Cond.methodLink RX0 108 yX5_hasCell ∈ lw_g := wb_11_in _ (List.mem_of_getElem? (i := 7) rfl)
theorem lf_X0_111 : Cond.fieldLink RX0 111 (TX10 5).1 (TX10 5).2.1 (TX10 5).2.2.1 ∈ lw_g := wb_11_in _ (List.mem_of_getElem? (i := 8) rfl)
theorem lm_X0_114 : Cond.methodLink RX0 114 yX10_lostBoxes ∈ lw_g := wb_11_in _ (List.mem_of_getElem? (i := 9) rfl)
theorem lm_X1_3 : Cond.methodLink RX1 3 objectInit ∈ lw_g := wb_11_in _ (List.mem_of_getElem? (i := 10) rfl)
theorem lf_X1_9 : Cond.fieldLink RX1 9 (TX1 0).1 (TX1 0).2.1 (TX1 0).2.2.1 ∈ lw_g := wb_11_in _ (List.mem_of_getElem? (i := 11) rfl)
theorem lf_X1_15 : Cond.fieldLink RX1 15 (TX1 1).1 (TX1 1).2.1 (TX1 1).2.2.1 ∈ lw_g := wb_11_in _ (List.mem_of_getElem? (i := 12) rfl)
theorem lf_X1_19 : Cond.fieldLink RX1 19 (TX1 2).1 (TX1 2).2.1 (TX1 2).2.2.1 ∈ lw_g := wb_11_in _ (List.mem_of_getElem? (i := 13) rfl)
theorem lm_X1_23 : Cond.methodLink RX1 23 yX8_next ∈ lw_g := wb_11_in _ (List.mem_of_getElem? (i := 14) rfl)
theorem lf_X1_28 : Cond.fieldLink RX1 28 (TX5 4).1 (TX5 4).2.1 (TX5 4).2.2.1 ∈ lw_g := wb_11_in _ (List.mem_of_getElem? (i := 15) rfl)
theorem lf_X1_34 : Cond.fieldLink RX1 34 (TX5 5).1 (TX5 5).2.1 (TX5 5).2.2.1 ∈ lw_g := wb_11_in _ (List.mem_of_getElem? (i := 16) rfl)
theorem lm_X1_37 : Cond.methodLink RX1 37 yX1_sum ∈ lw_g := wb_11_in _ (List.mem_of_getElem? (i := 17) rfl)
theorem lf_X1_41 : Cond.fieldLink RX1 41 (TX5 6).1 (TX5 6).2.1 (TX5 6).2.2.1 ∈ lw_g := wb_11_in _ (List.mem_of_getElem? (i := 18) rfl)
theorem lf_X1_44 : Cond.fieldLink RX1 44 (TX5 7).1 (TX5 7).2.1 (TX5 7).2.2.1 ∈ lw_g := wb_11_in _ (List.mem_of_getElem? (i := 19) rfl)
theorem lm_X1_47 : Cond.methodLink RX1 47 yX1_test ∈ lw_g := wb_11_in _ (List.mem_of_getElem? (i := 20) rfl)
theorem lf_X1_50 : Cond.fieldLink RX1 50 (TX5 8).1 (TX5 8).2.1 (TX5 8).2.2.1 ∈ lw_g := wb_11_in _ (List.mem_of_getElem? (i := 21) rfl)
theorem lm_X1_53 : Cond.methodLink RX1 53 yX1_both ∈ lw_g := wb_11_in _ (List.mem_of_getElem? (i := 22) rfl)
theorem lm_X1_58 : Cond.methodLink RX1 58 yX8_isWord ∈ lw_g := wb_11_in _ (List.mem_of_getElem? (i := 23) rfl)
theorem lm_X1_64 : Cond.methodLink RX1 64 yX5_emit ∈ lw_g := wb_11_in _ (List.mem_of_getElem? (i := 24) rfl)
theorem lm_X1_68 : Cond.methodLink RX1 68 yX1_fact ∈ lw_g := wb_11_in _ (List.mem_of_getElem? (i := 25) rfl)
theorem lm_X1_71 : Cond.methodLink RX1 71 yX1_passOpening ∈ lw_g := wb_11_in _ (List.mem_of_getElem? (i := 26) rfl)
theorem lm_X1_74 : Cond.methodLink RX1 74 yX8_isMark ∈ lw_g := wb_11_in _ (List.mem_of_getElem? (i := 27) rfl)
theorem lm_X1_78 : Cond.methodLink RX1 78 yX8_takeMark ∈ lw_g := wb_11_in _ (List.mem_of_getElem? (i := 28) rfl)
theorem lm_X1_82 : Cond.methodLink RX1 82 yX1_comparison ∈ lw_g := wb_11_in _ (List.mem_of_getElem? (i := 29) rfl)
theorem lm_X1_85 : Cond.methodLink RX1 85 yX8_refuseHere ∈ lw_g := wb_11_in _ (List.mem_of_getElem? (i := 30) rfl)
theorem lm_X1_88 : Cond.methodLink RX1 88 yX1_product ∈ lw_g := wb_11_in _ (List.mem_of_getElem? (i := 31) rfl)
theorem lm_X1_91 : Cond.methodLink RX1 91 yX1_part ∈ lw_g := wb_11_in _ (List.mem_of_getElem? (i := 32) rfl)
theorem lm_X1_94 : Cond.methodLink RX1 94 yX1_productSign ∈ lw_g := wb_11_in _ (List.mem_of_getElem? (i := 33) rfl)
theorem lf_X1_98 : Cond.fieldLink RX1 98 (TX8 7).1 (TX8 7).2.1 (TX8 7).2.2.1 ∈ lw_g := wb_11_in _ (List.mem_of_getElem? (i := 34) rfl)
theorem lf_X1_101 : Cond.fieldLink RX1 101 (TX8 9).1 (TX8 9).2.1 (TX8 9).2.2.1 ∈ lw_g := wb_11_in _ (List.mem_of_getElem? (i := 35) rfl)
theorem lm_X1_104 : Cond.methodLink RX1 104 yX1_choice ∈ lw_g := wb_11_in _ (List.mem_of_getElem? (i := 36) rfl)
theorem lm_X1_107 : Cond.methodLink RX1 107 yX1_known ∈ lw_g := wb_11_in _ (List.mem_of_getElem? (i := 37) rfl)
theorem lm_X1_110 : Cond.methodLink RX1 110 yX1_knownOf ∈ lw_g := wb_11_in _ (List.mem_of_getElem? (i := 38) rfl)
theorem lm_X2_1 : Cond.methodLink RX2 1 objectInit ∈ lw_g := wb_11_in _ (List.mem_of_getElem? (i := 39) rfl)
def wb_12_l : List Cond := [Cond.fieldLink RX2 7 (TX2 0).1 (TX2 0).2.1 (TX2 0).2.2.1, Cond.fieldLink RX2 13 (TX2 1).1 (TX2 1).2.1 (TX2 1).2.2.1, Cond.methodLink RX2 16 yJ9_max_7cf53, Cond.fieldLink RX2 22 (TX5 3).1 (TX5 3).2.1 (TX5 3).2.2.1, Cond.methodLink RX2 27 yX2_needsOf, Cond.methodLink RX2 31 yX2_joined, Cond.constantLong RX2 35 (-1000000), Cond.constantLong RX2 37 (1000000), Cond.methodLink RX2 39 yJ9_min_f86c9, Cond.methodLink RX2 43 yJ9_max_f86c9, Cond.methodLink RX2 45 yJ9_floorDiv_f86c9, Cond.methodLink RX2 48 yJ9_floorMod_f86c9, Cond.methodLink RX3 5 objectInit, Cond.fieldLink RX3 15 (TX3 0).1 (TX3 0).2.1 (TX3 0).2.2.1, Cond.fieldLink RX3 18 (TX3 1).1 (TX3 1).2.1 (TX3 1).2.2.1, Cond.methodLink RX3 22 yX3_forget, Cond.fieldLink RX3 25 (TX3 2).1 (TX3 2).2.1 (TX3 2).2.2.1, Cond.fieldLink RX3 29 (TX3 3).1 (TX3 3).2.1 (TX3 3).2.2.1, Cond.fieldLink RX3 32 (TX3 4).1 (TX3 4).2.1 (TX3 4).2.2.1, Cond.methodLink RX3 35 yJ9_min_7cf53, Cond.methodLink RX3 41 yJ9_floorMod_7cf53, Cond.methodLink RX3 44 yX10_saveTo, Cond.methodLink RX3 48 arraycopyName, Cond.methodLink RX3 54 yX10_loadFrom, Cond.fieldLink RX3 57 (TX10 3).1 (TX10 3).2.1 (TX10 3).2.2.1, Cond.fieldLink RX3 61 (TX5 11).1 (TX5 11).2.1 (TX5 11).2.2.1, Cond.fieldLink RX3 66 (TX10 1).1 (TX10 1).2.1 (TX10 1).2.2.1, Cond.methodLink RX3 70 yX10_of, Cond.fieldLink RX3 73 (TX10 4).1 (TX10 4).2.1 (TX10 4).2.2.1, Cond.methodLink RX3 76 yX3_told, Cond.methodLink RX4 3 objectInit, Cond.fieldLink RX4 13 (TX4 0).1 (TX4 0).2.1 (TX4 0).2.2.1, Cond.fieldLink RX4 17 (TX4 1).1 (TX4 1).2.1 (TX4 1).2.2.1, Cond.methodLink RX4 23 yX10_init, Cond.fieldLink RX4 26 (TX4 2).1 (TX4 2).2.1 (TX4 2).2.2.1, Cond.fieldLink RX4 30 (TX10 4).1 (TX10 4).2.1 (TX10 4).2.2.1, Cond.methodLink RX4 33 yX4_addPair, Cond.fieldLink RX4 37 (TX10 5).1 (TX10 5).2.1 (TX10 5).2.2.1, Cond.methodLink RX4 40 yX4_add, Cond.fieldLink RX4 43 (TX10 3).1 (TX10 3).2.1 (TX10 3).2.2.1]
theorem wb_12_in : ∀ w ∈ wb_12_l, w ∈ lw_g := lw_rows [282, 284, 841, 66, 842, 845, 860, 861, 854, 857, 848, 851, 380, 386, 387, 382, 388, 389, 390, 762, 1027, 1030, 1034, 1083, 298, 93, 294, 1044, 302, 1099, 408, 411, 412, 410, 413, 301, 1108, 305, 1112, 297] (by decide +kernel) (by decide +kernel)
theorem lf_X2_7 : Cond.fieldLink RX2 7 (TX2 0).1 (TX2 0).2.1 (TX2 0).2.2.1 ∈ lw_g := wb_12_in _ (List.mem_of_getElem? (i := 0) rfl)
theorem lf_X2_13 : Cond.fieldLink RX2 13 (TX2 1).1 (TX2 1).2.1 (TX2 1).2.2.1 ∈ lw_g := wb_12_in _ (List.mem_of_getElem? (i := 1) rfl)
theorem lm_X2_16 : Cond.methodLink RX2 16 yJ9_max_7cf53 ∈ lw_g := wb_12_in _ (List.mem_of_getElem? (i := 2) rfl)
theorem lf_X2_22 : Cond.fieldLink RX2 22 (TX5 3).1 (TX5 3).2.1 (TX5 3).2.2.1 ∈ lw_g := wb_12_in _ (List.mem_of_getElem? (i := 3) rfl)
theorem lm_X2_27 : Cond.methodLink RX2 27 yX2_needsOf ∈ lw_g := wb_12_in _ (List.mem_of_getElem? (i := 4) rfl)
theorem lm_X2_31 : Cond.methodLink RX2 31 yX2_joined ∈ lw_g := wb_12_in _ (List.mem_of_getElem? (i := 5) rfl)
theorem lc_X2_35 : Cond.constantLong RX2 35 (-1000000) ∈ lw_g := wb_12_in _ (List.mem_of_getElem? (i := 6) rfl)
theorem lc_X2_37 : Cond.constantLong RX2 37 (1000000) ∈ lw_g := wb_12_in _ (List.mem_of_getElem? (i := 7) rfl)
theorem lm_X2_39 : Cond.methodLink RX2 39 yJ9_min_f86c9 ∈ lw_g := wb_12_in _ (List.mem_of_getElem? (i := 8) rfl)
theorem lm_X2_43 : Cond.methodLink RX2 43 yJ9_max_f86c9 ∈ lw_g := wb_12_in _ (List.mem_of_getElem? (i := 9) rfl)
theorem lm_X2_45 : Cond.methodLink RX2 45 yJ9_floorDiv_f86c9 ∈ lw_g := wb_12_in _ (List.mem_of_getElem? (i := 10) rfl)
theorem lm_X2_48 : Cond.methodLink RX2 48 yJ9_floorMod_f86c9 ∈ lw_g := wb_12_in _ (List.mem_of_getElem? (i := 11) rfl)
theorem lm_X3_5 : Cond.methodLink RX3 5 objectInit ∈ lw_g := wb_12_in _ (List.mem_of_getElem? (i := 12) rfl)
theorem lf_X3_15 : Cond.fieldLink RX3 15 (TX3 0).1 (TX3 0).2.1 (TX3 0).2.2.1 ∈ lw_g := wb_12_in _ (List.mem_of_getElem? (i := 13) rfl)
theorem lf_X3_18 : Cond.fieldLink RX3 18 (TX3 1).1 (TX3 1).2.1 (TX3 1).2.2.1 ∈ lw_g := wb_12_in _ (List.mem_of_getElem? (i := 14) rfl)
theorem lm_X3_22 : Cond.methodLink RX3 22 yX3_forget ∈ lw_g := wb_12_in _ (List.mem_of_getElem? (i := 15) rfl)
theorem lf_X3_25 : Cond.fieldLink RX3 25 (TX3 2).1 (TX3 2).2.1 (TX3 2).2.2.1 ∈ lw_g := wb_12_in _ (List.mem_of_getElem? (i := 16) rfl)
theorem lf_X3_29 : Cond.fieldLink RX3 29 (TX3 3).1 (TX3 3).2.1 (TX3 3).2.2.1 ∈ lw_g := wb_12_in _ (List.mem_of_getElem? (i := 17) rfl)
theorem lf_X3_32 : Cond.fieldLink RX3 32 (TX3 4).1 (TX3 4).2.1 (TX3 4).2.2.1 ∈ lw_g := wb_12_in _ (List.mem_of_getElem? (i := 18) rfl)
theorem lm_X3_35 : Cond.methodLink RX3 35 yJ9_min_7cf53 ∈ lw_g := wb_12_in _ (List.mem_of_getElem? (i := 19) rfl)
theorem lm_X3_41 : Cond.methodLink RX3 41 yJ9_floorMod_7cf53 ∈ lw_g := wb_12_in _ (List.mem_of_getElem? (i := 20) rfl)
theorem lm_X3_44 : Cond.methodLink RX3 44 yX10_saveTo ∈ lw_g := wb_12_in _ (List.mem_of_getElem? (i := 21) rfl)
theorem lm_X3_48 : Cond.methodLink RX3 48 arraycopyName ∈ lw_g := wb_12_in _ (List.mem_of_getElem? (i := 22) rfl)
theorem lm_X3_54 : Cond.methodLink RX3 54 yX10_loadFrom ∈ lw_g := wb_12_in _ (List.mem_of_getElem? (i := 23) rfl)
theorem lf_X3_57 : Cond.fieldLink RX3 57 (TX10 3).1 (TX10 3).2.1 (TX10 3).2.2.1 ∈ lw_g := wb_12_in _ (List.mem_of_getElem? (i := 24) rfl)
theorem lf_X3_61 : Cond.fieldLink RX3 61 (TX5 11).1 (TX5 11).2.1 (TX5 11).2.2.1 ∈ lw_g := wb_12_in _ (List.mem_of_getElem? (i := 25) rfl)
theorem lf_X3_66 : Cond.fieldLink RX3 66 (TX10 1).1 (TX10 1).2.1 (TX10 1).2.2.1 ∈ lw_g := wb_12_in _ (List.mem_of_getElem? (i := 26) rfl)
theorem lm_X3_70 : Cond.methodLink RX3 70 yX10_of ∈ lw_g := wb_12_in _ (List.mem_of_getElem? (i := 27) rfl)
theorem lf_X3_73 : Cond.fieldLink RX3 73 (TX10 4).1 (TX10 4).2.1 (TX10 4).2.2.1 ∈ lw_g := wb_12_in _ (List.mem_of_getElem? (i := 28) rfl)
theorem lm_X3_76 : Cond.methodLink RX3 76 yX3_told ∈ lw_g := wb_12_in _ (List.mem_of_getElem? (i := 29) rfl)
theorem lm_X4_3 : Cond.methodLink RX4 3 objectInit ∈ lw_g := wb_12_in _ (List.mem_of_getElem? (i := 30) rfl)
theorem lf_X4_13 : Cond.fieldLink RX4 13 (TX4 0).1 (TX4 0).2.1 (TX4 0).2.2.1 ∈ lw_g := wb_12_in _ (List.mem_of_getElem? (i := 31) rfl)
theorem lf_X4_17 : Cond.fieldLink RX4 17 (TX4 1).1 (TX4 1).2.1 (TX4 1).2.2.1 ∈ lw_g := wb_12_in _ (List.mem_of_getElem? (i := 32) rfl)
theorem lm_X4_23 : Cond.methodLink RX4 23 yX10_init ∈ lw_g := wb_12_in _ (List.mem_of_getElem? (i := 33) rfl)
theorem lf_X4_26 : Cond.fieldLink RX4 26 (TX4 2).1 (TX4 2).2.1 (TX4 2).2.2.1 ∈ lw_g := wb_12_in _ (List.mem_of_getElem? (i := 34) rfl)
theorem lf_X4_30 : Cond.fieldLink RX4 30 (TX10 4).1 (TX10 4).2.1 (TX10 4).2.2.1 ∈ lw_g := wb_12_in _ (List.mem_of_getElem? (i := 35) rfl)
theorem lm_X4_33 : Cond.methodLink RX4 33 yX4_addPair ∈ lw_g := wb_12_in _ (List.mem_of_getElem? (i := 36) rfl)
theorem lf_X4_37 : Cond.fieldLink RX4 37 (TX10 5).1 (TX10 5).2.1 (TX10 5).2.2.1 ∈ lw_g := wb_12_in _ (List.mem_of_getElem? (i := 37) rfl)
theorem lm_X4_40 : Cond.methodLink RX4 40 yX4_add ∈ lw_g := wb_12_in _ (List.mem_of_getElem? (i := 38) rfl)
theorem lf_X4_43 : Cond.fieldLink RX4 43 (TX10 3).1 (TX10 3).2.1 (TX10 3).2.2.1 ∈ lw_g := wb_12_in _ (List.mem_of_getElem? (i := 39) rfl)
def wb_13_l : List Cond := [Cond.fieldLink RX4 47 (TX5 11).1 (TX5 11).2.1 (TX5 11).2.2.1, Cond.methodLink RX4 50 yX10_of, Cond.methodLink RX4 54 yX4_byteAt, Cond.methodLink RX4 58 yX4_checkedBy, Cond.fieldLink RX4 61 (TX7 1).1 (TX7 1).2.1 (TX7 1).2.2.1, Cond.methodLink RX4 64 yX7_at, Cond.methodLink RX4 67 yX10_copyFrom, Cond.methodLink RX4 71 yX7_pairAt, Cond.methodLink RX4 74 yX4_readBox, Cond.methodLink RX4 78 yX5_hasCell, Cond.fieldLink RX4 82 (TX10 0).1 (TX10 0).2.1 (TX10 0).2.2.1, Cond.methodLink RX4 85 yX10_boxIn, Cond.methodLink RX4 89 yX10_set, Cond.methodLink RX5 3 objectInit, Cond.fieldLink RX5 11 (TX5 0).1 (TX5 0).2.1 (TX5 0).2.2.1, Cond.fieldLink RX5 15 (TX5 1).1 (TX5 1).2.1 (TX5 1).2.2.1, Cond.fieldLink RX5 20 (TX5 2).1 (TX5 2).2.1 (TX5 2).2.2.1, Cond.fieldLink RX5 25 (TX5 3).1 (TX5 3).2.1 (TX5 3).2.2.1, Cond.methodLink RX5 28 yX5_clear, Cond.methodLink RX5 31 yJ7_fill_53178, Cond.fieldLink RX5 37 (TX5 4).1 (TX5 4).2.1 (TX5 4).2.2.1, Cond.fieldLink RX5 41 (TX5 5).1 (TX5 5).2.1 (TX5 5).2.2.1, Cond.fieldLink RX5 44 (TX5 6).1 (TX5 6).2.1 (TX5 6).2.2.1, Cond.fieldLink RX5 47 (TX5 7).1 (TX5 7).2.1 (TX5 7).2.2.1, Cond.fieldLink RX5 50 (TX5 8).1 (TX5 8).2.1 (TX5 8).2.2.1, Cond.fieldLink RX5 53 (TX5 9).1 (TX5 9).2.1 (TX5 9).2.2.1, Cond.fieldLink RX5 56 (TX5 10).1 (TX5 10).2.1 (TX5 10).2.2.1, Cond.fieldLink RX5 59 (TX5 11).1 (TX5 11).2.1 (TX5 11).2.2.1, Cond.fieldLink RX5 62 (TX5 12).1 (TX5 12).2.1 (TX5 12).2.2.1, Cond.fieldLink RX5 65 (TX5 13).1 (TX5 13).2.1 (TX5 13).2.2.1, Cond.fieldLink RX5 68 (TX5 14).1 (TX5 14).2.1 (TX5 14).2.2.1, Cond.methodLink RX5 71 yX5_hasCell, Cond.methodLink RX5 75 yX10_boxIn, Cond.methodLink RX5 79 yX5_setStart, Cond.methodLink RX5 83 yX5_hasBox, Cond.methodLink RX6 3 objectInit, Cond.methodLink RX6 11 yX8_init, Cond.fieldLink RX6 14 (TX6 0).1 (TX6 0).2.1 (TX6 0).2.2.1, Cond.methodLink RX6 22 yX1_init, Cond.fieldLink RX6 25 (TX6 1).1 (TX6 1).2.1 (TX6 1).2.2.1]
theorem wb_13_in : ∀ w ∈ wb_13_l, w ∈ lw_g := lw_rows [90, 1116, 1117, 1121, 40, 1137, 1138, 1139, 1144, 1148, 292, 1149, 1150, 52, 60, 61, 63, 65, 53, 57, 68, 70, 72, 75, 78, 81, 85, 89, 95, 98, 101, 581, 601, 608, 612, 140, 143, 259, 245, 261] (by decide +kernel) (by decide +kernel)
theorem lf_X4_47 : Cond.fieldLink RX4 47 (TX5 11).1 (TX5 11).2.1 (TX5 11).2.2.1 ∈ lw_g := wb_13_in _ (List.mem_of_getElem? (i := 0) rfl)
theorem lm_X4_50 : Cond.methodLink RX4 50 yX10_of ∈ lw_g := wb_13_in _ (List.mem_of_getElem? (i := 1) rfl)
theorem lm_X4_54 : Cond.methodLink RX4 54 yX4_byteAt ∈ lw_g := wb_13_in _ (List.mem_of_getElem? (i := 2) rfl)
theorem lm_X4_58 : Cond.methodLink RX4 58 yX4_checkedBy ∈ lw_g := wb_13_in _ (List.mem_of_getElem? (i := 3) rfl)
theorem lf_X4_61 : Cond.fieldLink RX4 61 (TX7 1).1 (TX7 1).2.1 (TX7 1).2.2.1 ∈ lw_g := wb_13_in _ (List.mem_of_getElem? (i := 4) rfl)
theorem lm_X4_64 : Cond.methodLink RX4 64 yX7_at ∈ lw_g := wb_13_in _ (List.mem_of_getElem? (i := 5) rfl)
theorem lm_X4_67 : Cond.methodLink RX4 67 yX10_copyFrom ∈ lw_g := wb_13_in _ (List.mem_of_getElem? (i := 6) rfl)
theorem lm_X4_71 : Cond.methodLink RX4 71 yX7_pairAt ∈ lw_g := wb_13_in _ (List.mem_of_getElem? (i := 7) rfl)
theorem lm_X4_74 : Cond.methodLink RX4 74 yX4_readBox ∈ lw_g := wb_13_in _ (List.mem_of_getElem? (i := 8) rfl)
theorem lm_X4_78 : Cond.methodLink RX4 78 yX5_hasCell ∈ lw_g := wb_13_in _ (List.mem_of_getElem? (i := 9) rfl)
theorem lf_X4_82 : Cond.fieldLink RX4 82 (TX10 0).1 (TX10 0).2.1 (TX10 0).2.2.1 ∈ lw_g := wb_13_in _ (List.mem_of_getElem? (i := 10) rfl)
theorem lm_X4_85 : Cond.methodLink RX4 85 yX10_boxIn ∈ lw_g := wb_13_in _ (List.mem_of_getElem? (i := 11) rfl)
theorem lm_X4_89 : Cond.methodLink RX4 89 yX10_set ∈ lw_g := wb_13_in _ (List.mem_of_getElem? (i := 12) rfl)
theorem lm_X5_3 : Cond.methodLink RX5 3 objectInit ∈ lw_g := wb_13_in _ (List.mem_of_getElem? (i := 13) rfl)
theorem lf_X5_11 : Cond.fieldLink RX5 11 (TX5 0).1 (TX5 0).2.1 (TX5 0).2.2.1 ∈ lw_g := wb_13_in _ (List.mem_of_getElem? (i := 14) rfl)
theorem lf_X5_15 : Cond.fieldLink RX5 15 (TX5 1).1 (TX5 1).2.1 (TX5 1).2.2.1 ∈ lw_g := wb_13_in _ (List.mem_of_getElem? (i := 15) rfl)
theorem lf_X5_20 : Cond.fieldLink RX5 20 (TX5 2).1 (TX5 2).2.1 (TX5 2).2.2.1 ∈ lw_g := wb_13_in _ (List.mem_of_getElem? (i := 16) rfl)
theorem lf_X5_25 : Cond.fieldLink RX5 25 (TX5 3).1 (TX5 3).2.1 (TX5 3).2.2.1 ∈ lw_g := wb_13_in _ (List.mem_of_getElem? (i := 17) rfl)
theorem lm_X5_28 : Cond.methodLink RX5 28 yX5_clear ∈ lw_g := wb_13_in _ (List.mem_of_getElem? (i := 18) rfl)
theorem lm_X5_31 : Cond.methodLink RX5 31 yJ7_fill_53178 ∈ lw_g := wb_13_in _ (List.mem_of_getElem? (i := 19) rfl)
theorem lf_X5_37 : Cond.fieldLink RX5 37 (TX5 4).1 (TX5 4).2.1 (TX5 4).2.2.1 ∈ lw_g := wb_13_in _ (List.mem_of_getElem? (i := 20) rfl)
theorem lf_X5_41 : Cond.fieldLink RX5 41 (TX5 5).1 (TX5 5).2.1 (TX5 5).2.2.1 ∈ lw_g := wb_13_in _ (List.mem_of_getElem? (i := 21) rfl)
theorem lf_X5_44 : Cond.fieldLink RX5 44 (TX5 6).1 (TX5 6).2.1 (TX5 6).2.2.1 ∈ lw_g := wb_13_in _ (List.mem_of_getElem? (i := 22) rfl)
theorem lf_X5_47 : Cond.fieldLink RX5 47 (TX5 7).1 (TX5 7).2.1 (TX5 7).2.2.1 ∈ lw_g := wb_13_in _ (List.mem_of_getElem? (i := 23) rfl)
theorem lf_X5_50 : Cond.fieldLink RX5 50 (TX5 8).1 (TX5 8).2.1 (TX5 8).2.2.1 ∈ lw_g := wb_13_in _ (List.mem_of_getElem? (i := 24) rfl)
theorem lf_X5_53 : Cond.fieldLink RX5 53 (TX5 9).1 (TX5 9).2.1 (TX5 9).2.2.1 ∈ lw_g := wb_13_in _ (List.mem_of_getElem? (i := 25) rfl)
theorem lf_X5_56 : Cond.fieldLink RX5 56 (TX5 10).1 (TX5 10).2.1 (TX5 10).2.2.1 ∈ lw_g := wb_13_in _ (List.mem_of_getElem? (i := 26) rfl)
theorem lf_X5_59 : Cond.fieldLink RX5 59 (TX5 11).1 (TX5 11).2.1 (TX5 11).2.2.1 ∈ lw_g := wb_13_in _ (List.mem_of_getElem? (i := 27) rfl)
theorem lf_X5_62 : Cond.fieldLink RX5 62 (TX5 12).1 (TX5 12).2.1 (TX5 12).2.2.1 ∈ lw_g := wb_13_in _ (List.mem_of_getElem? (i := 28) rfl)
theorem lf_X5_65 : Cond.fieldLink RX5 65 (TX5 13).1 (TX5 13).2.1 (TX5 13).2.2.1 ∈ lw_g := wb_13_in _ (List.mem_of_getElem? (i := 29) rfl)
theorem lf_X5_68 : Cond.fieldLink RX5 68 (TX5 14).1 (TX5 14).2.1 (TX5 14).2.2.1 ∈ lw_g := wb_13_in _ (List.mem_of_getElem? (i := 30) rfl)
theorem lm_X5_71 : Cond.methodLink RX5 71 yX5_hasCell ∈ lw_g := wb_13_in _ (List.mem_of_getElem? (i := 31) rfl)
theorem lm_X5_75 : Cond.methodLink RX5 75 yX10_boxIn ∈ lw_g := wb_13_in _ (List.mem_of_getElem? (i := 32) rfl)
theorem lm_X5_79 : Cond.methodLink RX5 79 yX5_setStart ∈ lw_g := wb_13_in _ (List.mem_of_getElem? (i := 33) rfl)
theorem lm_X5_83 : Cond.methodLink RX5 83 yX5_hasBox ∈ lw_g := wb_13_in _ (List.mem_of_getElem? (i := 34) rfl)
theorem lm_X6_3 : Cond.methodLink RX6 3 objectInit ∈ lw_g := wb_13_in _ (List.mem_of_getElem? (i := 35) rfl)
theorem lm_X6_11 : Cond.methodLink RX6 11 yX8_init ∈ lw_g := wb_13_in _ (List.mem_of_getElem? (i := 36) rfl)
theorem lf_X6_14 : Cond.fieldLink RX6 14 (TX6 0).1 (TX6 0).2.1 (TX6 0).2.2.1 ∈ lw_g := wb_13_in _ (List.mem_of_getElem? (i := 37) rfl)
theorem lm_X6_22 : Cond.methodLink RX6 22 yX1_init ∈ lw_g := wb_13_in _ (List.mem_of_getElem? (i := 38) rfl)
theorem lf_X6_25 : Cond.fieldLink RX6 25 (TX6 1).1 (TX6 1).2.1 (TX6 1).2.2.1 ∈ lw_g := wb_13_in _ (List.mem_of_getElem? (i := 39) rfl)
def wb_14_l : List Cond := [Cond.fieldLink RX6 29 (TX6 2).1 (TX6 2).2.1 (TX6 2).2.2.1, Cond.methodLink RX6 33 yX5_clear, Cond.methodLink RX6 38 yX8_open, Cond.methodLink RX6 41 yX6_readStatement, Cond.methodLink RX6 45 yX8_isMark, Cond.methodLink RX6 49 yX8_refuseMore, Cond.methodLink RX6 52 yX8_takeMark, Cond.fieldLink RX6 56 (TX8 7).1 (TX8 7).2.1 (TX8 7).2.2.1, Cond.fieldLink RX6 60 (TX8 9).1 (TX8 9).2.1 (TX8 9).2.2.1, Cond.methodLink RX6 63 yX8_refuseHere, Cond.methodLink RX6 67 yX6_refuseOneTooMany, Cond.methodLink RX6 70 yX6_readFloor, Cond.methodLink RX6 73 yX6_readGrey, Cond.methodLink RX6 76 yX6_readBox, Cond.methodLink RX6 79 yX6_readEyes, Cond.methodLink RX6 82 yX6_readBias, Cond.methodLink RX6 85 yX1_readSteers, Cond.methodLink RX6 89 yX1_readGoes, Cond.methodLink RX6 92 yX6_readSetting, Cond.fieldLink RX6 95 (TX5 11).1 (TX5 11).2.1 (TX5 11).2.2.1, Cond.methodLink RX6 98 yX5_hasSteers, Cond.methodLink RX6 102 yX5_hasGoes, Cond.methodLink RX6 105 yX8_next, Cond.methodLink RX6 108 yX8_takeNumber, Cond.fieldLink RX6 112 (TX5 9).1 (TX5 9).2.1 (TX5 9).2.2.1, Cond.methodLink RX6 115 yX8_takeWord, Cond.fieldLink RX6 118 (TX5 10).1 (TX5 10).2.1 (TX5 10).2.2.1, Cond.methodLink RX6 121 yX5_setGrey, Cond.methodLink RX6 125 yX6_takeNewName, Cond.methodLink RX6 129 yX5_boxStartingOn, Cond.methodLink RX6 132 yX5_addBox, Cond.methodLink RX6 136 yX6_takeBoxName, Cond.methodLink RX6 141 yX5_setStart, Cond.fieldLink RX6 144 (TX5 12).1 (TX5 12).2.1 (TX5 12).2.2.1, Cond.fieldLink RX6 147 (TX5 13).1 (TX5 13).2.1 (TX5 13).2.2.1, Cond.fieldLink RX6 150 (TX5 14).1 (TX5 14).2.1 (TX5 14).2.2.1, Cond.methodLink RX6 153 yX5_boxNamed, Cond.methodLink RX7 3 objectInit, Cond.fieldLink RX7 11 (TX7 0).1 (TX7 0).2.1 (TX7 0).2.2.1, Cond.fieldLink RX7 15 (TX7 1).1 (TX7 1).2.1 (TX7 1).2.2.1]
theorem wb_14_in : ∀ w ∈ wb_14_l, w ∈ lw_g := lw_rows [262, 489, 490, 539, 704, 705, 709, 206, 210, 543, 544, 556, 573, 585, 616, 625, 629, 696, 700, 91, 548, 552, 560, 561, 82, 565, 86, 577, 589, 597, 604, 620, 624, 97, 100, 102, 593, 34, 35, 36] (by decide +kernel) (by decide +kernel)
theorem lf_X6_29 : Cond.fieldLink RX6 29 (TX6 2).1 (TX6 2).2.1 (TX6 2).2.2.1 ∈ lw_g := wb_14_in _ (List.mem_of_getElem? (i := 0) rfl)
theorem lm_X6_33 : Cond.methodLink RX6 33 yX5_clear ∈ lw_g := wb_14_in _ (List.mem_of_getElem? (i := 1) rfl)
theorem lm_X6_38 : Cond.methodLink RX6 38 yX8_open ∈ lw_g := wb_14_in _ (List.mem_of_getElem? (i := 2) rfl)
theorem lm_X6_41 : Cond.methodLink RX6 41 yX6_readStatement ∈ lw_g := wb_14_in _ (List.mem_of_getElem? (i := 3) rfl)
theorem lm_X6_45 : Cond.methodLink RX6 45 yX8_isMark ∈ lw_g := wb_14_in _ (List.mem_of_getElem? (i := 4) rfl)
theorem lm_X6_49 : Cond.methodLink RX6 49 yX8_refuseMore ∈ lw_g := wb_14_in _ (List.mem_of_getElem? (i := 5) rfl)
theorem lm_X6_52 : Cond.methodLink RX6 52 yX8_takeMark ∈ lw_g := wb_14_in _ (List.mem_of_getElem? (i := 6) rfl)
theorem lf_X6_56 : Cond.fieldLink RX6 56 (TX8 7).1 (TX8 7).2.1 (TX8 7).2.2.1 ∈ lw_g := wb_14_in _ (List.mem_of_getElem? (i := 7) rfl)
theorem lf_X6_60 : Cond.fieldLink RX6 60 (TX8 9).1 (TX8 9).2.1 (TX8 9).2.2.1 ∈ lw_g := wb_14_in _ (List.mem_of_getElem? (i := 8) rfl)
theorem lm_X6_63 : Cond.methodLink RX6 63 yX8_refuseHere ∈ lw_g := wb_14_in _ (List.mem_of_getElem? (i := 9) rfl)
theorem lm_X6_67 : Cond.methodLink RX6 67 yX6_refuseOneTooMany ∈ lw_g := wb_14_in _ (List.mem_of_getElem? (i := 10) rfl)
theorem lm_X6_70 : Cond.methodLink RX6 70 yX6_readFloor ∈ lw_g := wb_14_in _ (List.mem_of_getElem? (i := 11) rfl)
theorem lm_X6_73 : Cond.methodLink RX6 73 yX6_readGrey ∈ lw_g := wb_14_in _ (List.mem_of_getElem? (i := 12) rfl)
theorem lm_X6_76 : Cond.methodLink RX6 76 yX6_readBox ∈ lw_g := wb_14_in _ (List.mem_of_getElem? (i := 13) rfl)
theorem lm_X6_79 : Cond.methodLink RX6 79 yX6_readEyes ∈ lw_g := wb_14_in _ (List.mem_of_getElem? (i := 14) rfl)
theorem lm_X6_82 : Cond.methodLink RX6 82 yX6_readBias ∈ lw_g := wb_14_in _ (List.mem_of_getElem? (i := 15) rfl)
theorem lm_X6_85 : Cond.methodLink RX6 85 yX1_readSteers ∈ lw_g := wb_14_in _ (List.mem_of_getElem? (i := 16) rfl)
theorem lm_X6_89 : Cond.methodLink RX6 89 yX1_readGoes ∈ lw_g := wb_14_in _ (List.mem_of_getElem? (i := 17) rfl)
theorem lm_X6_92 : Cond.methodLink RX6 92 yX6_readSetting ∈ lw_g := wb_14_in _ (List.mem_of_getElem? (i := 18) rfl)
theorem lf_X6_95 : Cond.fieldLink RX6 95 (TX5 11).1 (TX5 11).2.1 (TX5 11).2.2.1 ∈ lw_g := wb_14_in _ (List.mem_of_getElem? (i := 19) rfl)
theorem lm_X6_98 : Cond.methodLink RX6 98 yX5_hasSteers ∈ lw_g := wb_14_in _ (List.mem_of_getElem? (i := 20) rfl)
theorem lm_X6_102 : Cond.methodLink RX6 102 yX5_hasGoes ∈ lw_g := wb_14_in _ (List.mem_of_getElem? (i := 21) rfl)
theorem lm_X6_105 : Cond.methodLink RX6 105 yX8_next ∈ lw_g := wb_14_in _ (List.mem_of_getElem? (i := 22) rfl)
theorem lm_X6_108 : Cond.methodLink RX6 108 yX8_takeNumber ∈ lw_g := wb_14_in _ (List.mem_of_getElem? (i := 23) rfl)
theorem lf_X6_112 : Cond.fieldLink RX6 112 (TX5 9).1 (TX5 9).2.1 (TX5 9).2.2.1 ∈ lw_g := wb_14_in _ (List.mem_of_getElem? (i := 24) rfl)
theorem lm_X6_115 : Cond.methodLink RX6 115 yX8_takeWord ∈ lw_g := wb_14_in _ (List.mem_of_getElem? (i := 25) rfl)
theorem lf_X6_118 : Cond.fieldLink RX6 118 (TX5 10).1 (TX5 10).2.1 (TX5 10).2.2.1 ∈ lw_g := wb_14_in _ (List.mem_of_getElem? (i := 26) rfl)
theorem lm_X6_121 : Cond.methodLink RX6 121 yX5_setGrey ∈ lw_g := wb_14_in _ (List.mem_of_getElem? (i := 27) rfl)
theorem lm_X6_125 : Cond.methodLink RX6 125 yX6_takeNewName ∈ lw_g := wb_14_in _ (List.mem_of_getElem? (i := 28) rfl)
theorem lm_X6_129 : Cond.methodLink RX6 129 yX5_boxStartingOn ∈ lw_g := wb_14_in _ (List.mem_of_getElem? (i := 29) rfl)
theorem lm_X6_132 : Cond.methodLink RX6 132 yX5_addBox ∈ lw_g := wb_14_in _ (List.mem_of_getElem? (i := 30) rfl)
theorem lm_X6_136 : Cond.methodLink RX6 136 yX6_takeBoxName ∈ lw_g := wb_14_in _ (List.mem_of_getElem? (i := 31) rfl)
theorem lm_X6_141 : Cond.methodLink RX6 141 yX5_setStart ∈ lw_g := wb_14_in _ (List.mem_of_getElem? (i := 32) rfl)
theorem lf_X6_144 : Cond.fieldLink RX6 144 (TX5 12).1 (TX5 12).2.1 (TX5 12).2.2.1 ∈ lw_g := wb_14_in _ (List.mem_of_getElem? (i := 33) rfl)
theorem lf_X6_147 : Cond.fieldLink RX6 147 (TX5 13).1 (TX5 13).2.1 (TX5 13).2.2.1 ∈ lw_g := wb_14_in _ (List.mem_of_getElem? (i := 34) rfl)
theorem lf_X6_150 : Cond.fieldLink RX6 150 (TX5 14).1 (TX5 14).2.1 (TX5 14).2.2.1 ∈ lw_g := wb_14_in _ (List.mem_of_getElem? (i := 35) rfl)
theorem lm_X6_153 : Cond.methodLink RX6 153 yX5_boxNamed ∈ lw_g := wb_14_in _ (List.mem_of_getElem? (i := 36) rfl)
theorem lm_X7_3 : Cond.methodLink RX7 3 objectInit ∈ lw_g := wb_14_in _ (List.mem_of_getElem? (i := 37) rfl)
theorem lf_X7_11 : Cond.fieldLink RX7 11 (TX7 0).1 (TX7 0).2.1 (TX7 0).2.2.1 ∈ lw_g := wb_14_in _ (List.mem_of_getElem? (i := 38) rfl)
theorem lf_X7_15 : Cond.fieldLink RX7 15 (TX7 1).1 (TX7 1).2.1 (TX7 1).2.2.1 ∈ lw_g := wb_14_in _ (List.mem_of_getElem? (i := 39) rfl)
def wb_15_l : List Cond := [Cond.methodLink RX7 19 yX7_at, Cond.methodLink RX8 3 objectInit, Cond.fieldLink RX8 11 (TX8 1).1 (TX8 1).2.1 (TX8 1).2.2.1, Cond.fieldLink RX8 17 (TX8 2).1 (TX8 2).2.1 (TX8 2).2.2.1, Cond.fieldLink RX8 20 (TX8 3).1 (TX8 3).2.1 (TX8 3).2.2.1, Cond.fieldLink RX8 23 (TX8 4).1 (TX8 4).2.1 (TX8 4).2.2.1, Cond.fieldLink RX8 26 (TX8 0).1 (TX8 0).2.1 (TX8 0).2.2.1, Cond.methodLink RX8 32 yJ0_length_8abf5, Cond.methodLink RX8 38 yJ0_charAt_5068e, Cond.methodLink RX8 42 yX5_shiftOf, Cond.fieldLink RX8 48 (TX8 5).1 (TX8 5).2.1 (TX8 5).2.2.1, Cond.fieldLink RX8 52 (TX7 1).1 (TX7 1).2.1 (TX7 1).2.2.1, Cond.methodLink RX8 54 yX8_scan, Cond.methodLink RX8 58 yX8_markOwnWord, Cond.fieldLink RX8 62 (TX8 10).1 (TX8 10).2.1 (TX8 10).2.2.1, Cond.fieldLink RX8 65 (TX8 11).1 (TX8 11).2.1 (TX8 11).2.2.1, Cond.fieldLink RX8 68 (TX8 6).1 (TX8 6).2.1 (TX8 6).2.2.1, Cond.methodLink RX8 71 yX8_next, Cond.methodLink RX8 74 yX7_at, Cond.methodLink RX8 77 yX8_isBlank, Cond.methodLink RX8 80 yX8_isLetter, Cond.methodLink RX8 83 yX8_addLetter, Cond.methodLink RX8 87 yX8_startSolid, Cond.methodLink RX8 91 yX8_isDigit, Cond.methodLink RX8 94 yX8_addDigit, Cond.methodLink RX8 97 yX8_add, Cond.fieldLink RX8 101 (TX8 8).1 (TX8 8).2.1 (TX8 8).2.2.1, Cond.fieldLink RX8 104 (TX8 7).1 (TX8 7).2.1 (TX8 7).2.2.1, Cond.fieldLink RX8 107 (TX8 9).1 (TX8 9).2.1 (TX8 9).2.2.1, Cond.methodLink RX8 110 yX8_refuseHere, Cond.methodLink RX8 113 yX8_isMark, Cond.methodLink RX8 117 yX8_isWord, Cond.methodLink RX9 5 objectInit, Cond.fieldLink RX9 13 (TX9 1).1 (TX9 1).2.1 (TX9 1).2.2.1, Cond.fieldLink RX9 19 (TX9 2).1 (TX9 2).2.1 (TX9 2).2.2.1, Cond.methodLink RX9 22 yX10_init, Cond.fieldLink RX9 25 (TX9 0).1 (TX9 0).2.1 (TX9 0).2.2.1, Cond.fieldLink RX9 29 (TX9 3).1 (TX9 3).2.1 (TX9 3).2.2.1, Cond.fieldLink RX9 33 (TX7 1).1 (TX7 1).2.1 (TX7 1).2.2.1, Cond.methodLink RX9 38 yX7_at]
theorem wb_15_in : ∀ w ∈ wb_15_l, w ∈ lw_g := lw_rows [1143, 146, 200, 201, 202, 203, 199, 148, 158, 196, 204, 37, 494, 527, 213, 215, 205, 531, 498, 502, 505, 508, 512, 516, 523, 519, 209, 208, 212, 535, 663, 569, 356, 362, 363, 360, 361, 364, 39, 978] (by decide +kernel) (by decide +kernel)
theorem lm_X7_19 : Cond.methodLink RX7 19 yX7_at ∈ lw_g := wb_15_in _ (List.mem_of_getElem? (i := 0) rfl)
theorem lm_X8_3 : Cond.methodLink RX8 3 objectInit ∈ lw_g := wb_15_in _ (List.mem_of_getElem? (i := 1) rfl)
theorem lf_X8_11 : Cond.fieldLink RX8 11 (TX8 1).1 (TX8 1).2.1 (TX8 1).2.2.1 ∈ lw_g := wb_15_in _ (List.mem_of_getElem? (i := 2) rfl)
theorem lf_X8_17 : Cond.fieldLink RX8 17 (TX8 2).1 (TX8 2).2.1 (TX8 2).2.2.1 ∈ lw_g := wb_15_in _ (List.mem_of_getElem? (i := 3) rfl)
theorem lf_X8_20 : Cond.fieldLink RX8 20 (TX8 3).1 (TX8 3).2.1 (TX8 3).2.2.1 ∈ lw_g := wb_15_in _ (List.mem_of_getElem? (i := 4) rfl)
theorem lf_X8_23 : Cond.fieldLink RX8 23 (TX8 4).1 (TX8 4).2.1 (TX8 4).2.2.1 ∈ lw_g := wb_15_in _ (List.mem_of_getElem? (i := 5) rfl)
theorem lf_X8_26 : Cond.fieldLink RX8 26 (TX8 0).1 (TX8 0).2.1 (TX8 0).2.2.1 ∈ lw_g := wb_15_in _ (List.mem_of_getElem? (i := 6) rfl)
theorem lm_X8_32 : Cond.methodLink RX8 32 yJ0_length_8abf5 ∈ lw_g := wb_15_in _ (List.mem_of_getElem? (i := 7) rfl)
theorem lm_X8_38 : Cond.methodLink RX8 38 yJ0_charAt_5068e ∈ lw_g := wb_15_in _ (List.mem_of_getElem? (i := 8) rfl)
theorem lm_X8_42 : Cond.methodLink RX8 42 yX5_shiftOf ∈ lw_g := wb_15_in _ (List.mem_of_getElem? (i := 9) rfl)
theorem lf_X8_48 : Cond.fieldLink RX8 48 (TX8 5).1 (TX8 5).2.1 (TX8 5).2.2.1 ∈ lw_g := wb_15_in _ (List.mem_of_getElem? (i := 10) rfl)
theorem lf_X8_52 : Cond.fieldLink RX8 52 (TX7 1).1 (TX7 1).2.1 (TX7 1).2.2.1 ∈ lw_g := wb_15_in _ (List.mem_of_getElem? (i := 11) rfl)
theorem lm_X8_54 : Cond.methodLink RX8 54 yX8_scan ∈ lw_g := wb_15_in _ (List.mem_of_getElem? (i := 12) rfl)
theorem lm_X8_58 : Cond.methodLink RX8 58 yX8_markOwnWord ∈ lw_g := wb_15_in _ (List.mem_of_getElem? (i := 13) rfl)
theorem lf_X8_62 : Cond.fieldLink RX8 62 (TX8 10).1 (TX8 10).2.1 (TX8 10).2.2.1 ∈ lw_g := wb_15_in _ (List.mem_of_getElem? (i := 14) rfl)
theorem lf_X8_65 : Cond.fieldLink RX8 65 (TX8 11).1 (TX8 11).2.1 (TX8 11).2.2.1 ∈ lw_g := wb_15_in _ (List.mem_of_getElem? (i := 15) rfl)
theorem lf_X8_68 : Cond.fieldLink RX8 68 (TX8 6).1 (TX8 6).2.1 (TX8 6).2.2.1 ∈ lw_g := wb_15_in _ (List.mem_of_getElem? (i := 16) rfl)
theorem lm_X8_71 : Cond.methodLink RX8 71 yX8_next ∈ lw_g := wb_15_in _ (List.mem_of_getElem? (i := 17) rfl)
theorem lm_X8_74 : Cond.methodLink RX8 74 yX7_at ∈ lw_g := wb_15_in _ (List.mem_of_getElem? (i := 18) rfl)
theorem lm_X8_77 : Cond.methodLink RX8 77 yX8_isBlank ∈ lw_g := wb_15_in _ (List.mem_of_getElem? (i := 19) rfl)
theorem lm_X8_80 : Cond.methodLink RX8 80 yX8_isLetter ∈ lw_g := wb_15_in _ (List.mem_of_getElem? (i := 20) rfl)
theorem lm_X8_83 : Cond.methodLink RX8 83 yX8_addLetter ∈ lw_g := wb_15_in _ (List.mem_of_getElem? (i := 21) rfl)
theorem lm_X8_87 : Cond.methodLink RX8 87 yX8_startSolid ∈ lw_g := wb_15_in _ (List.mem_of_getElem? (i := 22) rfl)
theorem lm_X8_91 : Cond.methodLink RX8 91 yX8_isDigit ∈ lw_g := wb_15_in _ (List.mem_of_getElem? (i := 23) rfl)
theorem lm_X8_94 : Cond.methodLink RX8 94 yX8_addDigit ∈ lw_g := wb_15_in _ (List.mem_of_getElem? (i := 24) rfl)
theorem lm_X8_97 : Cond.methodLink RX8 97 yX8_add ∈ lw_g := wb_15_in _ (List.mem_of_getElem? (i := 25) rfl)
theorem lf_X8_101 : Cond.fieldLink RX8 101 (TX8 8).1 (TX8 8).2.1 (TX8 8).2.2.1 ∈ lw_g := wb_15_in _ (List.mem_of_getElem? (i := 26) rfl)
theorem lf_X8_104 : Cond.fieldLink RX8 104 (TX8 7).1 (TX8 7).2.1 (TX8 7).2.2.1 ∈ lw_g := wb_15_in _ (List.mem_of_getElem? (i := 27) rfl)
theorem lf_X8_107 : Cond.fieldLink RX8 107 (TX8 9).1 (TX8 9).2.1 (TX8 9).2.2.1 ∈ lw_g := wb_15_in _ (List.mem_of_getElem? (i := 28) rfl)
theorem lm_X8_110 : Cond.methodLink RX8 110 yX8_refuseHere ∈ lw_g := wb_15_in _ (List.mem_of_getElem? (i := 29) rfl)
theorem lm_X8_113 : Cond.methodLink RX8 113 yX8_isMark ∈ lw_g := wb_15_in _ (List.mem_of_getElem? (i := 30) rfl)
theorem lm_X8_117 : Cond.methodLink RX8 117 yX8_isWord ∈ lw_g := wb_15_in _ (List.mem_of_getElem? (i := 31) rfl)
theorem lm_X9_5 : Cond.methodLink RX9 5 objectInit ∈ lw_g := wb_15_in _ (List.mem_of_getElem? (i := 32) rfl)
theorem lf_X9_13 : Cond.fieldLink RX9 13 (TX9 1).1 (TX9 1).2.1 (TX9 1).2.2.1 ∈ lw_g := wb_15_in _ (List.mem_of_getElem? (i := 33) rfl)
theorem lf_X9_19 : Cond.fieldLink RX9 19 (TX9 2).1 (TX9 2).2.1 (TX9 2).2.2.1 ∈ lw_g := wb_15_in _ (List.mem_of_getElem? (i := 34) rfl)
theorem lm_X9_22 : Cond.methodLink RX9 22 yX10_init ∈ lw_g := wb_15_in _ (List.mem_of_getElem? (i := 35) rfl)
theorem lf_X9_25 : Cond.fieldLink RX9 25 (TX9 0).1 (TX9 0).2.1 (TX9 0).2.2.1 ∈ lw_g := wb_15_in _ (List.mem_of_getElem? (i := 36) rfl)
theorem lf_X9_29 : Cond.fieldLink RX9 29 (TX9 3).1 (TX9 3).2.1 (TX9 3).2.2.1 ∈ lw_g := wb_15_in _ (List.mem_of_getElem? (i := 37) rfl)
theorem lf_X9_33 : Cond.fieldLink RX9 33 (TX7 1).1 (TX7 1).2.1 (TX7 1).2.2.1 ∈ lw_g := wb_15_in _ (List.mem_of_getElem? (i := 38) rfl)
theorem lm_X9_38 : Cond.methodLink RX9 38 yX7_at ∈ lw_g := wb_15_in _ (List.mem_of_getElem? (i := 39) rfl)
def wb_16_l : List Cond := [Cond.methodLink RX9 42 yX5_hasCell, Cond.methodLink RX9 48 yX9_followAll, Cond.methodLink RX9 52 yX9_bitsLeft, Cond.methodLink RX9 56 yX9_fitsRows, Cond.methodLink RX9 60 yX10_comingSteps, Cond.methodLink RX9 63 yX9_mostLeft, Cond.methodLink RX9 67 yX10_copyFrom, Cond.methodLink RX9 71 yX10_set, Cond.methodLink RX9 75 yJ7_fill_53178, Cond.methodLink RX9 81 yX10_pass, Cond.methodLink RX9 85 yX9_placeOf, Cond.methodLink RX9 88 yX10_of, Cond.methodLink RX9 91 yJ9_max_7cf53, Cond.methodLink RX10 7 objectInit, Cond.fieldLink RX10 13 (TX10 0).1 (TX10 0).2.1 (TX10 0).2.2.1, Cond.fieldLink RX10 17 (TX10 1).1 (TX10 1).2.1 (TX10 1).2.2.1, Cond.fieldLink RX10 24 (TX10 2).1 (TX10 2).2.1 (TX10 2).2.2.1, Cond.fieldLink RX10 28 (TX10 3).1 (TX10 3).2.1 (TX10 3).2.2.1, Cond.fieldLink RX10 32 (TX10 4).1 (TX10 4).2.1 (TX10 4).2.2.1, Cond.fieldLink RX10 36 (TX10 5).1 (TX10 5).2.1 (TX10 5).2.2.1, Cond.fieldLink RX10 39 (TX10 6).1 (TX10 6).2.1 (TX10 6).2.2.1, Cond.fieldLink RX10 42 (TX10 7).1 (TX10 7).2.1 (TX10 7).2.2.1, Cond.fieldLink RX10 45 (TX5 13).1 (TX5 13).2.1 (TX5 13).2.2.1, Cond.fieldLink RX10 46 (TX5 2).1 (TX5 2).2.1 (TX5 2).2.2.1, Cond.methodLink RX10 49 arraycopyName, Cond.fieldLink RX10 55 (TX5 11).1 (TX5 11).2.1 (TX5 11).2.2.1, Cond.fieldLink RX10 58 (TX5 12).1 (TX5 12).2.1 (TX5 12).2.2.1, Cond.methodLink RX10 61 yX10_set, Cond.methodLink RX10 65 yX10_of, Cond.methodLink RX10 69 yJ9_min_7cf53, Cond.methodLink RX10 74 yX10_comingSteps, Cond.methodLink RX10 78 yX10_boxIn, Cond.methodLink RX10 82 yX5_greyAt, Cond.methodLink RX10 85 yX10_isBlack, Cond.fieldLink RX10 89 (TX5 9).1 (TX5 9).2.1 (TX5 9).2.2.1, Cond.fieldLink RX10 92 (TX5 10).1 (TX5 10).2.1 (TX5 10).2.2.1, Cond.methodLink RX10 95 yX10_columnStep, Cond.methodLink RX10 98 yX10_rowStep, Cond.methodLink RX10 101 yJ9_max_7cf53, Cond.methodLink RX10 104 yX10_moveBox]
theorem wb_16_in : ∀ w ∈ wb_16_l, w ∈ lw_g := lw_rows [979, 988, 1002, 1006, 992, 1014, 993, 994, 995, 996, 997, 1001, 1018, 275, 291, 293, 295, 296, 300, 304, 308, 311, 99, 64, 714, 92, 96, 717, 750, 817, 813, 782, 742, 738, 84, 88, 796, 799, 802, 831] (by decide +kernel) (by decide +kernel)
theorem lm_X9_42 : Cond.methodLink RX9 42 yX5_hasCell ∈ lw_g := wb_16_in _ (List.mem_of_getElem? (i := 0) rfl)
theorem lm_X9_48 : Cond.methodLink RX9 48 yX9_followAll ∈ lw_g := wb_16_in _ (List.mem_of_getElem? (i := 1) rfl)
theorem lm_X9_52 : Cond.methodLink RX9 52 yX9_bitsLeft ∈ lw_g := wb_16_in _ (List.mem_of_getElem? (i := 2) rfl)
theorem lm_X9_56 : Cond.methodLink RX9 56 yX9_fitsRows ∈ lw_g := wb_16_in _ (List.mem_of_getElem? (i := 3) rfl)
theorem lm_X9_60 : Cond.methodLink RX9 60 yX10_comingSteps ∈ lw_g := wb_16_in _ (List.mem_of_getElem? (i := 4) rfl)
theorem lm_X9_63 : Cond.methodLink RX9 63 yX9_mostLeft ∈ lw_g := wb_16_in _ (List.mem_of_getElem? (i := 5) rfl)
theorem lm_X9_67 : Cond.methodLink RX9 67 yX10_copyFrom ∈ lw_g := wb_16_in _ (List.mem_of_getElem? (i := 6) rfl)
theorem lm_X9_71 : Cond.methodLink RX9 71 yX10_set ∈ lw_g := wb_16_in _ (List.mem_of_getElem? (i := 7) rfl)
theorem lm_X9_75 : Cond.methodLink RX9 75 yJ7_fill_53178 ∈ lw_g := wb_16_in _ (List.mem_of_getElem? (i := 8) rfl)
theorem lm_X9_81 : Cond.methodLink RX9 81 yX10_pass ∈ lw_g := wb_16_in _ (List.mem_of_getElem? (i := 9) rfl)
theorem lm_X9_85 : Cond.methodLink RX9 85 yX9_placeOf ∈ lw_g := wb_16_in _ (List.mem_of_getElem? (i := 10) rfl)
theorem lm_X9_88 : Cond.methodLink RX9 88 yX10_of ∈ lw_g := wb_16_in _ (List.mem_of_getElem? (i := 11) rfl)
theorem lm_X9_91 : Cond.methodLink RX9 91 yJ9_max_7cf53 ∈ lw_g := wb_16_in _ (List.mem_of_getElem? (i := 12) rfl)
theorem lm_X10_7 : Cond.methodLink RX10 7 objectInit ∈ lw_g := wb_16_in _ (List.mem_of_getElem? (i := 13) rfl)
theorem lf_X10_13 : Cond.fieldLink RX10 13 (TX10 0).1 (TX10 0).2.1 (TX10 0).2.2.1 ∈ lw_g := wb_16_in _ (List.mem_of_getElem? (i := 14) rfl)
theorem lf_X10_17 : Cond.fieldLink RX10 17 (TX10 1).1 (TX10 1).2.1 (TX10 1).2.2.1 ∈ lw_g := wb_16_in _ (List.mem_of_getElem? (i := 15) rfl)
theorem lf_X10_24 : Cond.fieldLink RX10 24 (TX10 2).1 (TX10 2).2.1 (TX10 2).2.2.1 ∈ lw_g := wb_16_in _ (List.mem_of_getElem? (i := 16) rfl)
theorem lf_X10_28 : Cond.fieldLink RX10 28 (TX10 3).1 (TX10 3).2.1 (TX10 3).2.2.1 ∈ lw_g := wb_16_in _ (List.mem_of_getElem? (i := 17) rfl)
theorem lf_X10_32 : Cond.fieldLink RX10 32 (TX10 4).1 (TX10 4).2.1 (TX10 4).2.2.1 ∈ lw_g := wb_16_in _ (List.mem_of_getElem? (i := 18) rfl)
theorem lf_X10_36 : Cond.fieldLink RX10 36 (TX10 5).1 (TX10 5).2.1 (TX10 5).2.2.1 ∈ lw_g := wb_16_in _ (List.mem_of_getElem? (i := 19) rfl)
theorem lf_X10_39 : Cond.fieldLink RX10 39 (TX10 6).1 (TX10 6).2.1 (TX10 6).2.2.1 ∈ lw_g := wb_16_in _ (List.mem_of_getElem? (i := 20) rfl)
theorem lf_X10_42 : Cond.fieldLink RX10 42 (TX10 7).1 (TX10 7).2.1 (TX10 7).2.2.1 ∈ lw_g := wb_16_in _ (List.mem_of_getElem? (i := 21) rfl)
theorem lf_X10_45 : Cond.fieldLink RX10 45 (TX5 13).1 (TX5 13).2.1 (TX5 13).2.2.1 ∈ lw_g := wb_16_in _ (List.mem_of_getElem? (i := 22) rfl)
theorem lf_X10_46 : Cond.fieldLink RX10 46 (TX5 2).1 (TX5 2).2.1 (TX5 2).2.2.1 ∈ lw_g := wb_16_in _ (List.mem_of_getElem? (i := 23) rfl)
theorem lm_X10_49 : Cond.methodLink RX10 49 arraycopyName ∈ lw_g := wb_16_in _ (List.mem_of_getElem? (i := 24) rfl)
theorem lf_X10_55 : Cond.fieldLink RX10 55 (TX5 11).1 (TX5 11).2.1 (TX5 11).2.2.1 ∈ lw_g := wb_16_in _ (List.mem_of_getElem? (i := 25) rfl)
theorem lf_X10_58 : Cond.fieldLink RX10 58 (TX5 12).1 (TX5 12).2.1 (TX5 12).2.2.1 ∈ lw_g := wb_16_in _ (List.mem_of_getElem? (i := 26) rfl)
theorem lm_X10_61 : Cond.methodLink RX10 61 yX10_set ∈ lw_g := wb_16_in _ (List.mem_of_getElem? (i := 27) rfl)
theorem lm_X10_65 : Cond.methodLink RX10 65 yX10_of ∈ lw_g := wb_16_in _ (List.mem_of_getElem? (i := 28) rfl)
theorem lm_X10_69 : Cond.methodLink RX10 69 yJ9_min_7cf53 ∈ lw_g := wb_16_in _ (List.mem_of_getElem? (i := 29) rfl)
theorem lm_X10_74 : Cond.methodLink RX10 74 yX10_comingSteps ∈ lw_g := wb_16_in _ (List.mem_of_getElem? (i := 30) rfl)
theorem lm_X10_78 : Cond.methodLink RX10 78 yX10_boxIn ∈ lw_g := wb_16_in _ (List.mem_of_getElem? (i := 31) rfl)
theorem lm_X10_82 : Cond.methodLink RX10 82 yX5_greyAt ∈ lw_g := wb_16_in _ (List.mem_of_getElem? (i := 32) rfl)
theorem lm_X10_85 : Cond.methodLink RX10 85 yX10_isBlack ∈ lw_g := wb_16_in _ (List.mem_of_getElem? (i := 33) rfl)
theorem lf_X10_89 : Cond.fieldLink RX10 89 (TX5 9).1 (TX5 9).2.1 (TX5 9).2.2.1 ∈ lw_g := wb_16_in _ (List.mem_of_getElem? (i := 34) rfl)
theorem lf_X10_92 : Cond.fieldLink RX10 92 (TX5 10).1 (TX5 10).2.1 (TX5 10).2.2.1 ∈ lw_g := wb_16_in _ (List.mem_of_getElem? (i := 35) rfl)
theorem lm_X10_95 : Cond.methodLink RX10 95 yX10_columnStep ∈ lw_g := wb_16_in _ (List.mem_of_getElem? (i := 36) rfl)
theorem lm_X10_98 : Cond.methodLink RX10 98 yX10_rowStep ∈ lw_g := wb_16_in _ (List.mem_of_getElem? (i := 37) rfl)
theorem lm_X10_101 : Cond.methodLink RX10 101 yJ9_max_7cf53 ∈ lw_g := wb_16_in _ (List.mem_of_getElem? (i := 38) rfl)
theorem lm_X10_104 : Cond.methodLink RX10 104 yX10_moveBox ∈ lw_g := wb_16_in _ (List.mem_of_getElem? (i := 39) rfl)
def wb_17_l : List Cond := [Cond.methodLink RX10 108 yX10_greySeen, Cond.fieldLink RX10 111 (TX2 0).1 (TX2 0).2.1 (TX2 0).2.2.1, Cond.methodLink RX10 114 yX5_hasSteers, Cond.fieldLink RX10 118 (TX5 5).1 (TX5 5).2.1 (TX5 5).2.2.1, Cond.fieldLink RX10 121 (TX5 6).1 (TX5 6).2.1 (TX5 6).2.2.1, Cond.methodLink RX10 124 yX2_valueOf, Cond.methodLink RX10 128 yX10_turnBy, Cond.methodLink RX10 132 yX5_hasGoes, Cond.fieldLink RX10 135 (TX5 7).1 (TX5 7).2.1 (TX5 7).2.2.1, Cond.fieldLink RX10 138 (TX5 8).1 (TX5 8).2.1 (TX5 8).2.2.1, Cond.methodLink RX10 141 yX10_goAhead, Cond.methodLink RX10 144 yX5_hasCell, Cond.methodLink RX10 147 yX10_boxOn, Cond.methodLink RX11 1 objectInit, Cond.fieldLink RX11 10 (TX11 0).1 (TX11 0).2.1 (TX11 0).2.2.1, Cond.methodLink RX11 18 yX5_init, Cond.fieldLink RX11 19 (TX11 8).1 (TX11 8).2.1 (TX11 8).2.2.1, Cond.fieldLink RX11 23 (TX11 9).1 (TX11 9).2.1 (TX11 9).2.2.1, Cond.methodLink RX11 28 yX6_init, Cond.fieldLink RX11 31 (TX11 1).1 (TX11 1).2.1 (TX11 1).2.2.1, Cond.methodLink RX11 37 yX10_init, Cond.fieldLink RX11 40 (TX11 2).1 (TX11 2).2.1 (TX11 2).2.2.1, Cond.methodLink RX11 46 yX0_init, Cond.fieldLink RX11 47 (TX11 3).1 (TX11 3).2.1 (TX11 3).2.2.1, Cond.methodLink RX11 53 yX9_init, Cond.fieldLink RX11 54 (TX11 4).1 (TX11 4).2.1 (TX11 4).2.2.1, Cond.methodLink RX11 60 yX3_init, Cond.fieldLink RX11 61 (TX11 5).1 (TX11 5).2.1 (TX11 5).2.2.1, Cond.methodLink RX11 67 yX4_init, Cond.fieldLink RX11 68 (TX11 6).1 (TX11 6).2.1 (TX11 6).2.2.1, Cond.fieldLink RX11 72 (TX11 7).1 (TX11 7).2.1 (TX11 7).2.2.1, Cond.fieldLink RX11 76 (TX11 10).1 (TX11 10).2.1 (TX11 10).2.2.1, Cond.fieldLink RX11 80 (TX11 11).1 (TX11 11).2.1 (TX11 11).2.2.1, Cond.fieldLink RX11 83 (TX11 12).1 (TX11 12).2.1 (TX11 12).2.2.1, Cond.methodLink RX11 86 yX7_hasSpaceFor, Cond.methodLink RX11 90 yX11_refuse, Cond.methodLink RX11 94 yX7_add, Cond.fieldLink RX11 98 (TX7 1).1 (TX7 1).2.1 (TX7 1).2.2.1, Cond.methodLink RX11 101 yX6_readInto, Cond.fieldLink RX11 105 (TX6 0).1 (TX6 0).2.1 (TX6 0).2.2.1]
theorem wb_17_in : ∀ w ∈ wb_17_l, w ∈ lw_g := lw_rows [835, 283, 836, 71, 74, 837, 862, 866, 77, 80, 867, 871, 872, 26, 421, 49, 429, 430, 137, 422, 272, 423, 332, 424, 353, 425, 377, 426, 405, 427, 428, 431, 432, 433, 465, 469, 473, 38, 485, 260] (by decide +kernel) (by decide +kernel)
theorem lm_X10_108 : Cond.methodLink RX10 108 yX10_greySeen ∈ lw_g := wb_17_in _ (List.mem_of_getElem? (i := 0) rfl)
theorem lf_X10_111 : Cond.fieldLink RX10 111 (TX2 0).1 (TX2 0).2.1 (TX2 0).2.2.1 ∈ lw_g := wb_17_in _ (List.mem_of_getElem? (i := 1) rfl)
theorem lm_X10_114 : Cond.methodLink RX10 114 yX5_hasSteers ∈ lw_g := wb_17_in _ (List.mem_of_getElem? (i := 2) rfl)
theorem lf_X10_118 : Cond.fieldLink RX10 118 (TX5 5).1 (TX5 5).2.1 (TX5 5).2.2.1 ∈ lw_g := wb_17_in _ (List.mem_of_getElem? (i := 3) rfl)
theorem lf_X10_121 : Cond.fieldLink RX10 121 (TX5 6).1 (TX5 6).2.1 (TX5 6).2.2.1 ∈ lw_g := wb_17_in _ (List.mem_of_getElem? (i := 4) rfl)
theorem lm_X10_124 : Cond.methodLink RX10 124 yX2_valueOf ∈ lw_g := wb_17_in _ (List.mem_of_getElem? (i := 5) rfl)
theorem lm_X10_128 : Cond.methodLink RX10 128 yX10_turnBy ∈ lw_g := wb_17_in _ (List.mem_of_getElem? (i := 6) rfl)
theorem lm_X10_132 : Cond.methodLink RX10 132 yX5_hasGoes ∈ lw_g := wb_17_in _ (List.mem_of_getElem? (i := 7) rfl)
theorem lf_X10_135 : Cond.fieldLink RX10 135 (TX5 7).1 (TX5 7).2.1 (TX5 7).2.2.1 ∈ lw_g := wb_17_in _ (List.mem_of_getElem? (i := 8) rfl)
theorem lf_X10_138 : Cond.fieldLink RX10 138 (TX5 8).1 (TX5 8).2.1 (TX5 8).2.2.1 ∈ lw_g := wb_17_in _ (List.mem_of_getElem? (i := 9) rfl)
theorem lm_X10_141 : Cond.methodLink RX10 141 yX10_goAhead ∈ lw_g := wb_17_in _ (List.mem_of_getElem? (i := 10) rfl)
theorem lm_X10_144 : Cond.methodLink RX10 144 yX5_hasCell ∈ lw_g := wb_17_in _ (List.mem_of_getElem? (i := 11) rfl)
theorem lm_X10_147 : Cond.methodLink RX10 147 yX10_boxOn ∈ lw_g := wb_17_in _ (List.mem_of_getElem? (i := 12) rfl)
theorem lm_X11_1 : Cond.methodLink RX11 1 objectInit ∈ lw_g := wb_17_in _ (List.mem_of_getElem? (i := 13) rfl)
theorem lf_X11_10 : Cond.fieldLink RX11 10 (TX11 0).1 (TX11 0).2.1 (TX11 0).2.2.1 ∈ lw_g := wb_17_in _ (List.mem_of_getElem? (i := 14) rfl)
theorem lm_X11_18 : Cond.methodLink RX11 18 yX5_init ∈ lw_g := wb_17_in _ (List.mem_of_getElem? (i := 15) rfl)
theorem lf_X11_19 : Cond.fieldLink RX11 19 (TX11 8).1 (TX11 8).2.1 (TX11 8).2.2.1 ∈ lw_g := wb_17_in _ (List.mem_of_getElem? (i := 16) rfl)
theorem lf_X11_23 : Cond.fieldLink RX11 23 (TX11 9).1 (TX11 9).2.1 (TX11 9).2.2.1 ∈ lw_g := wb_17_in _ (List.mem_of_getElem? (i := 17) rfl)
theorem lm_X11_28 : Cond.methodLink RX11 28 yX6_init ∈ lw_g := wb_17_in _ (List.mem_of_getElem? (i := 18) rfl)
theorem lf_X11_31 : Cond.fieldLink RX11 31 (TX11 1).1 (TX11 1).2.1 (TX11 1).2.2.1 ∈ lw_g := wb_17_in _ (List.mem_of_getElem? (i := 19) rfl)
theorem lm_X11_37 : Cond.methodLink RX11 37 yX10_init ∈ lw_g := wb_17_in _ (List.mem_of_getElem? (i := 20) rfl)
theorem lf_X11_40 : Cond.fieldLink RX11 40 (TX11 2).1 (TX11 2).2.1 (TX11 2).2.2.1 ∈ lw_g := wb_17_in _ (List.mem_of_getElem? (i := 21) rfl)
theorem lm_X11_46 : Cond.methodLink RX11 46 yX0_init ∈ lw_g := wb_17_in _ (List.mem_of_getElem? (i := 22) rfl)
theorem lf_X11_47 : Cond.fieldLink RX11 47 (TX11 3).1 (TX11 3).2.1 (TX11 3).2.2.1 ∈ lw_g := wb_17_in _ (List.mem_of_getElem? (i := 23) rfl)
theorem lm_X11_53 : Cond.methodLink RX11 53 yX9_init ∈ lw_g := wb_17_in _ (List.mem_of_getElem? (i := 24) rfl)
theorem lf_X11_54 : Cond.fieldLink RX11 54 (TX11 4).1 (TX11 4).2.1 (TX11 4).2.2.1 ∈ lw_g := wb_17_in _ (List.mem_of_getElem? (i := 25) rfl)
theorem lm_X11_60 : Cond.methodLink RX11 60 yX3_init ∈ lw_g := wb_17_in _ (List.mem_of_getElem? (i := 26) rfl)
theorem lf_X11_61 : Cond.fieldLink RX11 61 (TX11 5).1 (TX11 5).2.1 (TX11 5).2.2.1 ∈ lw_g := wb_17_in _ (List.mem_of_getElem? (i := 27) rfl)
theorem lm_X11_67 : Cond.methodLink RX11 67 yX4_init ∈ lw_g := wb_17_in _ (List.mem_of_getElem? (i := 28) rfl)
theorem lf_X11_68 : Cond.fieldLink RX11 68 (TX11 6).1 (TX11 6).2.1 (TX11 6).2.2.1 ∈ lw_g := wb_17_in _ (List.mem_of_getElem? (i := 29) rfl)
theorem lf_X11_72 : Cond.fieldLink RX11 72 (TX11 7).1 (TX11 7).2.1 (TX11 7).2.2.1 ∈ lw_g := wb_17_in _ (List.mem_of_getElem? (i := 30) rfl)
theorem lf_X11_76 : Cond.fieldLink RX11 76 (TX11 10).1 (TX11 10).2.1 (TX11 10).2.2.1 ∈ lw_g := wb_17_in _ (List.mem_of_getElem? (i := 31) rfl)
theorem lf_X11_80 : Cond.fieldLink RX11 80 (TX11 11).1 (TX11 11).2.1 (TX11 11).2.2.1 ∈ lw_g := wb_17_in _ (List.mem_of_getElem? (i := 32) rfl)
theorem lf_X11_83 : Cond.fieldLink RX11 83 (TX11 12).1 (TX11 12).2.1 (TX11 12).2.2.1 ∈ lw_g := wb_17_in _ (List.mem_of_getElem? (i := 33) rfl)
theorem lm_X11_86 : Cond.methodLink RX11 86 yX7_hasSpaceFor ∈ lw_g := wb_17_in _ (List.mem_of_getElem? (i := 34) rfl)
theorem lm_X11_90 : Cond.methodLink RX11 90 yX11_refuse ∈ lw_g := wb_17_in _ (List.mem_of_getElem? (i := 35) rfl)
theorem lm_X11_94 : Cond.methodLink RX11 94 yX7_add ∈ lw_g := wb_17_in _ (List.mem_of_getElem? (i := 36) rfl)
theorem lf_X11_98 : Cond.fieldLink RX11 98 (TX7 1).1 (TX7 1).2.1 (TX7 1).2.2.1 ∈ lw_g := wb_17_in _ (List.mem_of_getElem? (i := 37) rfl)
theorem lm_X11_101 : Cond.methodLink RX11 101 yX6_readInto ∈ lw_g := wb_17_in _ (List.mem_of_getElem? (i := 38) rfl)
theorem lf_X11_105 : Cond.fieldLink RX11 105 (TX6 0).1 (TX6 0).2.1 (TX6 0).2.2.1 ∈ lw_g := wb_17_in _ (List.mem_of_getElem? (i := 39) rfl)
def wb_18_l : List Cond := [Cond.fieldLink RX11 109 (TX8 10).1 (TX8 10).2.1 (TX8 10).2.2.1, Cond.fieldLink RX11 112 (TX8 11).1 (TX8 11).2.1 (TX8 11).2.2.1, Cond.methodLink RX11 113 yX10_begin, Cond.methodLink RX11 116 yX3_forget, Cond.methodLink RX11 119 yX9_forget, Cond.fieldLink RX11 120 (TX5 9).1 (TX5 9).2.1 (TX5 9).2.2.1, Cond.fieldLink RX11 123 (TX5 10).1 (TX5 10).2.1 (TX5 10).2.2.1, Cond.fieldLink RX11 126 (TX5 11).1 (TX5 11).2.1 (TX5 11).2.2.1, Cond.methodLink RX11 129 yX10_blackCells, Cond.fieldLink RX11 133 (TX10 4).1 (TX10 4).2.1 (TX10 4).2.2.1, Cond.fieldLink RX11 136 (TX10 5).1 (TX10 5).2.1 (TX10 5).2.2.1, Cond.methodLink RX11 139 yX10_lostBoxes, Cond.methodLink RX11 142 yX10_emptyBoxes, Cond.methodLink RX11 145 yX3_told, Cond.fieldLink RX11 148 (TX3 4).1 (TX3 4).2.1 (TX3 4).2.2.1, Cond.methodLink RX11 151 yX5_hasBox, Cond.fieldLink RX11 154 (TX5 1).1 (TX5 1).2.1 (TX5 1).2.2.1, Cond.methodLink RX11 157 yX5_shiftOf, Cond.methodLink RX11 160 yX5_hasCell, Cond.methodLink RX11 164 yX5_greyAt, Cond.methodLink RX11 168 yX10_isBlack, Cond.methodLink RX11 171 yX10_boxOn, Cond.methodLink RX11 174 yX10_of, Cond.methodLink RX11 177 yX10_greySeen, Cond.methodLink RX11 180 yX10_mayPass, Cond.methodLink RX11 184 yX0_stateBehind, Cond.methodLink RX11 188 yX0_stepsRound, Cond.methodLink RX11 192 yX0_stepsToLoss, Cond.methodLink RX11 196 yX0_firstJam, Cond.methodLink RX11 200 yX0_nearest, Cond.methodLink RX11 203 yX0_bestEyes, Cond.methodLink RX11 206 yX0_fewestMoves, Cond.methodLink RX11 209 yX0_leastDelay, Cond.methodLink RX11 212 yX0_brightestLamp, Cond.methodLink RX11 215 yX9_takeRows, Cond.fieldLink RX11 219 (TX9 3).1 (TX9 3).2.1 (TX9 3).2.2.1, Cond.methodLink RX11 222 yX9_biasBits, Cond.methodLink RX11 225 yX9_tellingSteps, Cond.methodLink RX11 228 yX3_remember, Cond.methodLink RX11 232 yX11_passStep]
theorem wb_18_in : ∀ w ∈ wb_18_l, w ∈ lw_g := lw_rows [214, 216, 710, 721, 722, 83, 87, 94, 734, 303, 306, 746, 754, 758, 391, 769, 62, 770, 775, 776, 777, 778, 787, 792, 809, 818, 878, 891, 899, 907, 923, 939, 957, 965, 974, 365, 984, 1010, 1023, 1035] (by decide +kernel) (by decide +kernel)
theorem lf_X11_109 : Cond.fieldLink RX11 109 (TX8 10).1 (TX8 10).2.1 (TX8 10).2.2.1 ∈ lw_g := wb_18_in _ (List.mem_of_getElem? (i := 0) rfl)
theorem lf_X11_112 : Cond.fieldLink RX11 112 (TX8 11).1 (TX8 11).2.1 (TX8 11).2.2.1 ∈ lw_g := wb_18_in _ (List.mem_of_getElem? (i := 1) rfl)
theorem lm_X11_113 : Cond.methodLink RX11 113 yX10_begin ∈ lw_g := wb_18_in _ (List.mem_of_getElem? (i := 2) rfl)
theorem lm_X11_116 : Cond.methodLink RX11 116 yX3_forget ∈ lw_g := wb_18_in _ (List.mem_of_getElem? (i := 3) rfl)
theorem lm_X11_119 : Cond.methodLink RX11 119 yX9_forget ∈ lw_g := wb_18_in _ (List.mem_of_getElem? (i := 4) rfl)
theorem lf_X11_120 : Cond.fieldLink RX11 120 (TX5 9).1 (TX5 9).2.1 (TX5 9).2.2.1 ∈ lw_g := wb_18_in _ (List.mem_of_getElem? (i := 5) rfl)
theorem lf_X11_123 : Cond.fieldLink RX11 123 (TX5 10).1 (TX5 10).2.1 (TX5 10).2.2.1 ∈ lw_g := wb_18_in _ (List.mem_of_getElem? (i := 6) rfl)
theorem lf_X11_126 : Cond.fieldLink RX11 126 (TX5 11).1 (TX5 11).2.1 (TX5 11).2.2.1 ∈ lw_g := wb_18_in _ (List.mem_of_getElem? (i := 7) rfl)
theorem lm_X11_129 : Cond.methodLink RX11 129 yX10_blackCells ∈ lw_g := wb_18_in _ (List.mem_of_getElem? (i := 8) rfl)
theorem lf_X11_133 : Cond.fieldLink RX11 133 (TX10 4).1 (TX10 4).2.1 (TX10 4).2.2.1 ∈ lw_g := wb_18_in _ (List.mem_of_getElem? (i := 9) rfl)
theorem lf_X11_136 : Cond.fieldLink RX11 136 (TX10 5).1 (TX10 5).2.1 (TX10 5).2.2.1 ∈ lw_g := wb_18_in _ (List.mem_of_getElem? (i := 10) rfl)
theorem lm_X11_139 : Cond.methodLink RX11 139 yX10_lostBoxes ∈ lw_g := wb_18_in _ (List.mem_of_getElem? (i := 11) rfl)
theorem lm_X11_142 : Cond.methodLink RX11 142 yX10_emptyBoxes ∈ lw_g := wb_18_in _ (List.mem_of_getElem? (i := 12) rfl)
theorem lm_X11_145 : Cond.methodLink RX11 145 yX3_told ∈ lw_g := wb_18_in _ (List.mem_of_getElem? (i := 13) rfl)
theorem lf_X11_148 : Cond.fieldLink RX11 148 (TX3 4).1 (TX3 4).2.1 (TX3 4).2.2.1 ∈ lw_g := wb_18_in _ (List.mem_of_getElem? (i := 14) rfl)
theorem lm_X11_151 : Cond.methodLink RX11 151 yX5_hasBox ∈ lw_g := wb_18_in _ (List.mem_of_getElem? (i := 15) rfl)
theorem lf_X11_154 : Cond.fieldLink RX11 154 (TX5 1).1 (TX5 1).2.1 (TX5 1).2.2.1 ∈ lw_g := wb_18_in _ (List.mem_of_getElem? (i := 16) rfl)
theorem lm_X11_157 : Cond.methodLink RX11 157 yX5_shiftOf ∈ lw_g := wb_18_in _ (List.mem_of_getElem? (i := 17) rfl)
theorem lm_X11_160 : Cond.methodLink RX11 160 yX5_hasCell ∈ lw_g := wb_18_in _ (List.mem_of_getElem? (i := 18) rfl)
theorem lm_X11_164 : Cond.methodLink RX11 164 yX5_greyAt ∈ lw_g := wb_18_in _ (List.mem_of_getElem? (i := 19) rfl)
theorem lm_X11_168 : Cond.methodLink RX11 168 yX10_isBlack ∈ lw_g := wb_18_in _ (List.mem_of_getElem? (i := 20) rfl)
theorem lm_X11_171 : Cond.methodLink RX11 171 yX10_boxOn ∈ lw_g := wb_18_in _ (List.mem_of_getElem? (i := 21) rfl)
theorem lm_X11_174 : Cond.methodLink RX11 174 yX10_of ∈ lw_g := wb_18_in _ (List.mem_of_getElem? (i := 22) rfl)
theorem lm_X11_177 : Cond.methodLink RX11 177 yX10_greySeen ∈ lw_g := wb_18_in _ (List.mem_of_getElem? (i := 23) rfl)
theorem lm_X11_180 : Cond.methodLink RX11 180 yX10_mayPass ∈ lw_g := wb_18_in _ (List.mem_of_getElem? (i := 24) rfl)
theorem lm_X11_184 : Cond.methodLink RX11 184 yX0_stateBehind ∈ lw_g := wb_18_in _ (List.mem_of_getElem? (i := 25) rfl)
theorem lm_X11_188 : Cond.methodLink RX11 188 yX0_stepsRound ∈ lw_g := wb_18_in _ (List.mem_of_getElem? (i := 26) rfl)
theorem lm_X11_192 : Cond.methodLink RX11 192 yX0_stepsToLoss ∈ lw_g := wb_18_in _ (List.mem_of_getElem? (i := 27) rfl)
theorem lm_X11_196 : Cond.methodLink RX11 196 yX0_firstJam ∈ lw_g := wb_18_in _ (List.mem_of_getElem? (i := 28) rfl)
theorem lm_X11_200 : Cond.methodLink RX11 200 yX0_nearest ∈ lw_g := wb_18_in _ (List.mem_of_getElem? (i := 29) rfl)
theorem lm_X11_203 : Cond.methodLink RX11 203 yX0_bestEyes ∈ lw_g := wb_18_in _ (List.mem_of_getElem? (i := 30) rfl)
theorem lm_X11_206 : Cond.methodLink RX11 206 yX0_fewestMoves ∈ lw_g := wb_18_in _ (List.mem_of_getElem? (i := 31) rfl)
theorem lm_X11_209 : Cond.methodLink RX11 209 yX0_leastDelay ∈ lw_g := wb_18_in _ (List.mem_of_getElem? (i := 32) rfl)
theorem lm_X11_212 : Cond.methodLink RX11 212 yX0_brightestLamp ∈ lw_g := wb_18_in _ (List.mem_of_getElem? (i := 33) rfl)
theorem lm_X11_215 : Cond.methodLink RX11 215 yX9_takeRows ∈ lw_g := wb_18_in _ (List.mem_of_getElem? (i := 34) rfl)
theorem lf_X11_219 : Cond.fieldLink RX11 219 (TX9 3).1 (TX9 3).2.1 (TX9 3).2.2.1 ∈ lw_g := wb_18_in _ (List.mem_of_getElem? (i := 35) rfl)
theorem lm_X11_222 : Cond.methodLink RX11 222 yX9_biasBits ∈ lw_g := wb_18_in _ (List.mem_of_getElem? (i := 36) rfl)
theorem lm_X11_225 : Cond.methodLink RX11 225 yX9_tellingSteps ∈ lw_g := wb_18_in _ (List.mem_of_getElem? (i := 37) rfl)
theorem lm_X11_228 : Cond.methodLink RX11 228 yX3_remember ∈ lw_g := wb_18_in _ (List.mem_of_getElem? (i := 38) rfl)
theorem lm_X11_232 : Cond.methodLink RX11 232 yX11_passStep ∈ lw_g := wb_18_in _ (List.mem_of_getElem? (i := 39) rfl)
def wb_19_l : List Cond := [Cond.methodLink RX11 235 yX11_letCatCome, Cond.methodLink RX11 239 yX10_set, Cond.methodLink RX11 243 yX3_restore, Cond.methodLink RX11 246 yX3_keptPart, Cond.methodLink RX11 249 yX4_write, Cond.methodLink RX11 252 yX4_byteAt, Cond.methodLink RX11 255 yX4_readInto, Cond.methodLink RX11 258 yX10_pass, Cond.methodLink RX11 262 yX3_keepStep, Cond.fieldLink RX11 265 (TX10 6).1 (TX10 6).2.1 (TX10 6).2.2.1, Cond.methodLink RX11 268 yX11_draw, Cond.fieldLink RX11 271 (TX5 14).1 (TX5 14).2.1 (TX5 14).2.2.1, Cond.methodLink RX11 274 yX10_turnBy, Cond.constantLong RX11 277 (1103515245), Cond.constantLong RX11 279 (12345), Cond.constantLong RX11 281 (2147483648), Cond.constantLong RX11 283 (64), Cond.methodLink RX12 1 objectInit, Cond.fieldLink RX12 7 (TX12 0).1 (TX12 0).2.1 (TX12 0).2.2.1, Cond.fieldLink RX12 13 (TX12 1).1 (TX12 1).2.1 (TX12 1).2.2.1, Cond.fieldLink RX12 17 (TX12 2).1 (TX12 2).2.1 (TX12 2).2.2.1, Cond.fieldLink RX12 20 (TX12 3).1 (TX12 3).2.1 (TX12 3).2.2.1, Cond.fieldLink RX12 23 (TX12 4).1 (TX12 4).2.1 (TX12 4).2.2.1, Cond.fieldLink RX12 26 (TX12 5).1 (TX12 5).2.1 (TX12 5).2.2.1, Cond.fieldLink RX12 29 (TX12 6).1 (TX12 6).2.1 (TX12 6).2.2.1, Cond.fieldLink RX12 32 (TX12 7).1 (TX12 7).2.1 (TX12 7).2.2.1, Cond.fieldLink RX12 36 (TX12 8).1 (TX12 8).2.1 (TX12 8).2.2.1, Cond.fieldLink RX12 39 (TX12 9).1 (TX12 9).2.1 (TX12 9).2.2.1, Cond.fieldLink RX12 42 (TX12 10).1 (TX12 10).2.1 (TX12 10).2.2.1, Cond.fieldLink RX12 45 (TX12 11).1 (TX12 11).2.1 (TX12 11).2.2.1, Cond.fieldLink RX12 48 (TX12 12).1 (TX12 12).2.1 (TX12 12).2.2.1, Cond.fieldLink RX12 51 (TX12 13).1 (TX12 13).2.1 (TX12 13).2.2.1, Cond.fieldLink RX12 54 (TX12 14).1 (TX12 14).2.1 (TX12 14).2.2.1, Cond.fieldLink RX12 57 (TX12 15).1 (TX12 15).2.1 (TX12 15).2.2.1, Cond.fieldLink RX12 60 (TX12 16).1 (TX12 16).2.1 (TX12 16).2.2.1, Cond.fieldLink RX12 63 (TX12 17).1 (TX12 17).2.1 (TX12 17).2.2.1, Cond.fieldLink RX12 66 (TX12 18).1 (TX12 18).2.1 (TX12 18).2.2.1, Cond.fieldLink RX12 69 (TX12 19).1 (TX12 19).2.1 (TX12 19).2.2.1, Cond.fieldLink RX12 72 (TX12 20).1 (TX12 20).2.1 (TX12 20).2.2.1, Cond.fieldLink RX12 75 (TX12 21).1 (TX12 21).2.1 (TX12 21).2.2.1]
theorem wb_19_in : ∀ w ∈ wb_19_l, w ∈ lw_g := lw_rows [1049, 1066, 1079, 1095, 1104, 1128, 1133, 1039, 1040, 310, 1053, 103, 1061, 1057, 1058, 1059, 1060, 1160, 1165, 1166, 1167, 1168, 1169, 1170, 1171, 1172, 1173, 1174, 1175, 1176, 1177, 1178, 1179, 1180, 1181, 1182, 1183, 1184, 1185, 1186] (by decide +kernel) (by decide +kernel)
theorem lm_X11_235 : Cond.methodLink RX11 235 yX11_letCatCome ∈ lw_g := wb_19_in _ (List.mem_of_getElem? (i := 0) rfl)
theorem lm_X11_239 : Cond.methodLink RX11 239 yX10_set ∈ lw_g := wb_19_in _ (List.mem_of_getElem? (i := 1) rfl)
theorem lm_X11_243 : Cond.methodLink RX11 243 yX3_restore ∈ lw_g := wb_19_in _ (List.mem_of_getElem? (i := 2) rfl)
theorem lm_X11_246 : Cond.methodLink RX11 246 yX3_keptPart ∈ lw_g := wb_19_in _ (List.mem_of_getElem? (i := 3) rfl)
theorem lm_X11_249 : Cond.methodLink RX11 249 yX4_write ∈ lw_g := wb_19_in _ (List.mem_of_getElem? (i := 4) rfl)
theorem lm_X11_252 : Cond.methodLink RX11 252 yX4_byteAt ∈ lw_g := wb_19_in _ (List.mem_of_getElem? (i := 5) rfl)
theorem lm_X11_255 : Cond.methodLink RX11 255 yX4_readInto ∈ lw_g := wb_19_in _ (List.mem_of_getElem? (i := 6) rfl)
theorem lm_X11_258 : Cond.methodLink RX11 258 yX10_pass ∈ lw_g := wb_19_in _ (List.mem_of_getElem? (i := 7) rfl)
theorem lm_X11_262 : Cond.methodLink RX11 262 yX3_keepStep ∈ lw_g := wb_19_in _ (List.mem_of_getElem? (i := 8) rfl)
theorem lf_X11_265 : Cond.fieldLink RX11 265 (TX10 6).1 (TX10 6).2.1 (TX10 6).2.2.1 ∈ lw_g := wb_19_in _ (List.mem_of_getElem? (i := 9) rfl)
theorem lm_X11_268 : Cond.methodLink RX11 268 yX11_draw ∈ lw_g := wb_19_in _ (List.mem_of_getElem? (i := 10) rfl)
theorem lf_X11_271 : Cond.fieldLink RX11 271 (TX5 14).1 (TX5 14).2.1 (TX5 14).2.2.1 ∈ lw_g := wb_19_in _ (List.mem_of_getElem? (i := 11) rfl)
theorem lm_X11_274 : Cond.methodLink RX11 274 yX10_turnBy ∈ lw_g := wb_19_in _ (List.mem_of_getElem? (i := 12) rfl)
theorem lc_X11_277 : Cond.constantLong RX11 277 (1103515245) ∈ lw_g := wb_19_in _ (List.mem_of_getElem? (i := 13) rfl)
theorem lc_X11_279 : Cond.constantLong RX11 279 (12345) ∈ lw_g := wb_19_in _ (List.mem_of_getElem? (i := 14) rfl)
theorem lc_X11_281 : Cond.constantLong RX11 281 (2147483648) ∈ lw_g := wb_19_in _ (List.mem_of_getElem? (i := 15) rfl)
theorem lc_X11_283 : Cond.constantLong RX11 283 (64) ∈ lw_g := wb_19_in _ (List.mem_of_getElem? (i := 16) rfl)
theorem lm_X12_1 : Cond.methodLink RX12 1 objectInit ∈ lw_g := wb_19_in _ (List.mem_of_getElem? (i := 17) rfl)
theorem lf_X12_7 : Cond.fieldLink RX12 7 (TX12 0).1 (TX12 0).2.1 (TX12 0).2.2.1 ∈ lw_g := wb_19_in _ (List.mem_of_getElem? (i := 18) rfl)
theorem lf_X12_13 : Cond.fieldLink RX12 13 (TX12 1).1 (TX12 1).2.1 (TX12 1).2.2.1 ∈ lw_g := wb_19_in _ (List.mem_of_getElem? (i := 19) rfl)
theorem lf_X12_17 : Cond.fieldLink RX12 17 (TX12 2).1 (TX12 2).2.1 (TX12 2).2.2.1 ∈ lw_g := wb_19_in _ (List.mem_of_getElem? (i := 20) rfl)
theorem lf_X12_20 : Cond.fieldLink RX12 20 (TX12 3).1 (TX12 3).2.1 (TX12 3).2.2.1 ∈ lw_g := wb_19_in _ (List.mem_of_getElem? (i := 21) rfl)
theorem lf_X12_23 : Cond.fieldLink RX12 23 (TX12 4).1 (TX12 4).2.1 (TX12 4).2.2.1 ∈ lw_g := wb_19_in _ (List.mem_of_getElem? (i := 22) rfl)
theorem lf_X12_26 : Cond.fieldLink RX12 26 (TX12 5).1 (TX12 5).2.1 (TX12 5).2.2.1 ∈ lw_g := wb_19_in _ (List.mem_of_getElem? (i := 23) rfl)
theorem lf_X12_29 : Cond.fieldLink RX12 29 (TX12 6).1 (TX12 6).2.1 (TX12 6).2.2.1 ∈ lw_g := wb_19_in _ (List.mem_of_getElem? (i := 24) rfl)
theorem lf_X12_32 : Cond.fieldLink RX12 32 (TX12 7).1 (TX12 7).2.1 (TX12 7).2.2.1 ∈ lw_g := wb_19_in _ (List.mem_of_getElem? (i := 25) rfl)
theorem lf_X12_36 : Cond.fieldLink RX12 36 (TX12 8).1 (TX12 8).2.1 (TX12 8).2.2.1 ∈ lw_g := wb_19_in _ (List.mem_of_getElem? (i := 26) rfl)
theorem lf_X12_39 : Cond.fieldLink RX12 39 (TX12 9).1 (TX12 9).2.1 (TX12 9).2.2.1 ∈ lw_g := wb_19_in _ (List.mem_of_getElem? (i := 27) rfl)
theorem lf_X12_42 : Cond.fieldLink RX12 42 (TX12 10).1 (TX12 10).2.1 (TX12 10).2.2.1 ∈ lw_g := wb_19_in _ (List.mem_of_getElem? (i := 28) rfl)
theorem lf_X12_45 : Cond.fieldLink RX12 45 (TX12 11).1 (TX12 11).2.1 (TX12 11).2.2.1 ∈ lw_g := wb_19_in _ (List.mem_of_getElem? (i := 29) rfl)
theorem lf_X12_48 : Cond.fieldLink RX12 48 (TX12 12).1 (TX12 12).2.1 (TX12 12).2.2.1 ∈ lw_g := wb_19_in _ (List.mem_of_getElem? (i := 30) rfl)
theorem lf_X12_51 : Cond.fieldLink RX12 51 (TX12 13).1 (TX12 13).2.1 (TX12 13).2.2.1 ∈ lw_g := wb_19_in _ (List.mem_of_getElem? (i := 31) rfl)
theorem lf_X12_54 : Cond.fieldLink RX12 54 (TX12 14).1 (TX12 14).2.1 (TX12 14).2.2.1 ∈ lw_g := wb_19_in _ (List.mem_of_getElem? (i := 32) rfl)
theorem lf_X12_57 : Cond.fieldLink RX12 57 (TX12 15).1 (TX12 15).2.1 (TX12 15).2.2.1 ∈ lw_g := wb_19_in _ (List.mem_of_getElem? (i := 33) rfl)
theorem lf_X12_60 : Cond.fieldLink RX12 60 (TX12 16).1 (TX12 16).2.1 (TX12 16).2.2.1 ∈ lw_g := wb_19_in _ (List.mem_of_getElem? (i := 34) rfl)
theorem lf_X12_63 : Cond.fieldLink RX12 63 (TX12 17).1 (TX12 17).2.1 (TX12 17).2.2.1 ∈ lw_g := wb_19_in _ (List.mem_of_getElem? (i := 35) rfl)
theorem lf_X12_66 : Cond.fieldLink RX12 66 (TX12 18).1 (TX12 18).2.1 (TX12 18).2.2.1 ∈ lw_g := wb_19_in _ (List.mem_of_getElem? (i := 36) rfl)
theorem lf_X12_69 : Cond.fieldLink RX12 69 (TX12 19).1 (TX12 19).2.1 (TX12 19).2.2.1 ∈ lw_g := wb_19_in _ (List.mem_of_getElem? (i := 37) rfl)
theorem lf_X12_72 : Cond.fieldLink RX12 72 (TX12 20).1 (TX12 20).2.1 (TX12 20).2.2.1 ∈ lw_g := wb_19_in _ (List.mem_of_getElem? (i := 38) rfl)
theorem lf_X12_75 : Cond.fieldLink RX12 75 (TX12 21).1 (TX12 21).2.1 (TX12 21).2.2.1 ∈ lw_g := wb_19_in _ (List.mem_of_getElem? (i := 39) rfl)
def wb_20_l : List Cond := [Cond.fieldLink RX12 78 (TX12 22).1 (TX12 22).2.1 (TX12 22).2.2.1, Cond.fieldLink RX12 81 (TX12 23).1 (TX12 23).2.1 (TX12 23).2.2.1, Cond.fieldLink RX12 84 (TX12 24).1 (TX12 24).2.1 (TX12 24).2.2.1, Cond.fieldLink RX12 87 (TX12 25).1 (TX12 25).2.1 (TX12 25).2.2.1, Cond.fieldLink RX12 90 (TX12 26).1 (TX12 26).2.1 (TX12 26).2.2.1, Cond.fieldLink RX12 93 (TX12 27).1 (TX12 27).2.1 (TX12 27).2.2.1, Cond.fieldLink RX12 96 (TX12 28).1 (TX12 28).2.1 (TX12 28).2.2.1, Cond.fieldLink RX12 100 (TX12 29).1 (TX12 29).2.1 (TX12 29).2.2.1, Cond.fieldLink RX12 103 (TX12 30).1 (TX12 30).2.1 (TX12 30).2.2.1, Cond.fieldLink RX12 106 (TX12 31).1 (TX12 31).2.1 (TX12 31).2.2.1, Cond.fieldLink RX12 110 (TX12 32).1 (TX12 32).2.1 (TX12 32).2.2.1, Cond.fieldLink RX12 113 (TX12 33).1 (TX12 33).2.1 (TX12 33).2.2.1, Cond.fieldLink RX12 116 (TX12 34).1 (TX12 34).2.1 (TX12 34).2.2.1, Cond.fieldLink RX12 120 (TX12 35).1 (TX12 35).2.1 (TX12 35).2.2.1, Cond.fieldLink RX12 123 (TX12 36).1 (TX12 36).2.1 (TX12 36).2.2.1, Cond.fieldLink RX12 126 (TX12 37).1 (TX12 37).2.1 (TX12 37).2.2.1, Cond.fieldLink RX12 129 (TX12 38).1 (TX12 38).2.1 (TX12 38).2.2.1, Cond.fieldLink RX12 132 (TX12 39).1 (TX12 39).2.1 (TX12 39).2.2.1, Cond.fieldLink RX12 135 (TX12 40).1 (TX12 40).2.1 (TX12 40).2.2.1, Cond.fieldLink RX12 138 (TX12 41).1 (TX12 41).2.1 (TX12 41).2.2.1, Cond.fieldLink RX12 141 (TX12 42).1 (TX12 42).2.1 (TX12 42).2.2.1, Cond.fieldLink RX12 144 (TX12 43).1 (TX12 43).2.1 (TX12 43).2.2.1, Cond.fieldLink RX12 147 (TX12 44).1 (TX12 44).2.1 (TX12 44).2.2.1, Cond.fieldLink RX12 150 (TX12 45).1 (TX12 45).2.1 (TX12 45).2.2.1, Cond.fieldLink RX12 153 (TX12 46).1 (TX12 46).2.1 (TX12 46).2.2.1, Cond.fieldLink RX12 156 (TX12 47).1 (TX12 47).2.1 (TX12 47).2.2.1, Cond.fieldLink RX12 159 (TX12 48).1 (TX12 48).2.1 (TX12 48).2.2.1, Cond.fieldLink RX12 162 (TX12 49).1 (TX12 49).2.1 (TX12 49).2.2.1, Cond.fieldLink RX12 165 (TX12 50).1 (TX12 50).2.1 (TX12 50).2.2.1, Cond.fieldLink RX12 168 (TX12 51).1 (TX12 51).2.1 (TX12 51).2.2.1, Cond.fieldLink RX12 171 (TX12 52).1 (TX12 52).2.1 (TX12 52).2.2.1, Cond.fieldLink RX12 174 (TX12 53).1 (TX12 53).2.1 (TX12 53).2.2.1, Cond.fieldLink RX12 177 (TX12 54).1 (TX12 54).2.1 (TX12 54).2.2.1, Cond.fieldLink RX12 180 (TX12 55).1 (TX12 55).2.1 (TX12 55).2.2.1, Cond.fieldLink RX12 183 (TX12 56).1 (TX12 56).2.1 (TX12 56).2.2.1, Cond.fieldLink RX12 186 (TX12 57).1 (TX12 57).2.1 (TX12 57).2.2.1, Cond.fieldLink RX12 189 (TX12 58).1 (TX12 58).2.1 (TX12 58).2.2.1, Cond.fieldLink RX12 192 (TX12 59).1 (TX12 59).2.1 (TX12 59).2.2.1, Cond.fieldLink RX12 195 (TX12 60).1 (TX12 60).2.1 (TX12 60).2.2.1, Cond.fieldLink RX12 198 (TX12 61).1 (TX12 61).2.1 (TX12 61).2.2.1]
theorem wb_20_in : ∀ w ∈ wb_20_l, w ∈ lw_g := lw_rows [1187, 1188, 1189, 1190, 1191, 1192, 1193, 1194, 1195, 1196, 1197, 1198, 1199, 1200, 1201, 1202, 1203, 1204, 1205, 1206, 1207, 1208, 1209, 1210, 1211, 1212, 1213, 1214, 1215, 1216, 1217, 1218, 1219, 1220, 1221, 1222, 1223, 1224, 1225, 1226] (by decide +kernel) (by decide +kernel)
theorem lf_X12_78 : Cond.fieldLink RX12 78 (TX12 22).1 (TX12 22).2.1 (TX12 22).2.2.1 ∈ lw_g := wb_20_in _ (List.mem_of_getElem? (i := 0) rfl)
theorem lf_X12_81 : Cond.fieldLink RX12 81 (TX12 23).1 (TX12 23).2.1 (TX12 23).2.2.1 ∈ lw_g := wb_20_in _ (List.mem_of_getElem? (i := 1) rfl)
theorem lf_X12_84 : Cond.fieldLink RX12 84 (TX12 24).1 (TX12 24).2.1 (TX12 24).2.2.1 ∈ lw_g := wb_20_in _ (List.mem_of_getElem? (i := 2) rfl)
theorem lf_X12_87 : Cond.fieldLink RX12 87 (TX12 25).1 (TX12 25).2.1 (TX12 25).2.2.1 ∈ lw_g := wb_20_in _ (List.mem_of_getElem? (i := 3) rfl)
theorem lf_X12_90 : Cond.fieldLink RX12 90 (TX12 26).1 (TX12 26).2.1 (TX12 26).2.2.1 ∈ lw_g := wb_20_in _ (List.mem_of_getElem? (i := 4) rfl)
theorem lf_X12_93 : Cond.fieldLink RX12 93 (TX12 27).1 (TX12 27).2.1 (TX12 27).2.2.1 ∈ lw_g := wb_20_in _ (List.mem_of_getElem? (i := 5) rfl)
theorem lf_X12_96 : Cond.fieldLink RX12 96 (TX12 28).1 (TX12 28).2.1 (TX12 28).2.2.1 ∈ lw_g := wb_20_in _ (List.mem_of_getElem? (i := 6) rfl)
theorem lf_X12_100 : Cond.fieldLink RX12 100 (TX12 29).1 (TX12 29).2.1 (TX12 29).2.2.1 ∈ lw_g := wb_20_in _ (List.mem_of_getElem? (i := 7) rfl)
theorem lf_X12_103 : Cond.fieldLink RX12 103 (TX12 30).1 (TX12 30).2.1 (TX12 30).2.2.1 ∈ lw_g := wb_20_in _ (List.mem_of_getElem? (i := 8) rfl)
theorem lf_X12_106 : Cond.fieldLink RX12 106 (TX12 31).1 (TX12 31).2.1 (TX12 31).2.2.1 ∈ lw_g := wb_20_in _ (List.mem_of_getElem? (i := 9) rfl)
theorem lf_X12_110 : Cond.fieldLink RX12 110 (TX12 32).1 (TX12 32).2.1 (TX12 32).2.2.1 ∈ lw_g := wb_20_in _ (List.mem_of_getElem? (i := 10) rfl)
theorem lf_X12_113 : Cond.fieldLink RX12 113 (TX12 33).1 (TX12 33).2.1 (TX12 33).2.2.1 ∈ lw_g := wb_20_in _ (List.mem_of_getElem? (i := 11) rfl)
theorem lf_X12_116 : Cond.fieldLink RX12 116 (TX12 34).1 (TX12 34).2.1 (TX12 34).2.2.1 ∈ lw_g := wb_20_in _ (List.mem_of_getElem? (i := 12) rfl)
theorem lf_X12_120 : Cond.fieldLink RX12 120 (TX12 35).1 (TX12 35).2.1 (TX12 35).2.2.1 ∈ lw_g := wb_20_in _ (List.mem_of_getElem? (i := 13) rfl)
theorem lf_X12_123 : Cond.fieldLink RX12 123 (TX12 36).1 (TX12 36).2.1 (TX12 36).2.2.1 ∈ lw_g := wb_20_in _ (List.mem_of_getElem? (i := 14) rfl)
theorem lf_X12_126 : Cond.fieldLink RX12 126 (TX12 37).1 (TX12 37).2.1 (TX12 37).2.2.1 ∈ lw_g := wb_20_in _ (List.mem_of_getElem? (i := 15) rfl)
theorem lf_X12_129 : Cond.fieldLink RX12 129 (TX12 38).1 (TX12 38).2.1 (TX12 38).2.2.1 ∈ lw_g := wb_20_in _ (List.mem_of_getElem? (i := 16) rfl)
theorem lf_X12_132 : Cond.fieldLink RX12 132 (TX12 39).1 (TX12 39).2.1 (TX12 39).2.2.1 ∈ lw_g := wb_20_in _ (List.mem_of_getElem? (i := 17) rfl)
theorem lf_X12_135 : Cond.fieldLink RX12 135 (TX12 40).1 (TX12 40).2.1 (TX12 40).2.2.1 ∈ lw_g := wb_20_in _ (List.mem_of_getElem? (i := 18) rfl)
theorem lf_X12_138 : Cond.fieldLink RX12 138 (TX12 41).1 (TX12 41).2.1 (TX12 41).2.2.1 ∈ lw_g := wb_20_in _ (List.mem_of_getElem? (i := 19) rfl)
theorem lf_X12_141 : Cond.fieldLink RX12 141 (TX12 42).1 (TX12 42).2.1 (TX12 42).2.2.1 ∈ lw_g := wb_20_in _ (List.mem_of_getElem? (i := 20) rfl)
theorem lf_X12_144 : Cond.fieldLink RX12 144 (TX12 43).1 (TX12 43).2.1 (TX12 43).2.2.1 ∈ lw_g := wb_20_in _ (List.mem_of_getElem? (i := 21) rfl)
theorem lf_X12_147 : Cond.fieldLink RX12 147 (TX12 44).1 (TX12 44).2.1 (TX12 44).2.2.1 ∈ lw_g := wb_20_in _ (List.mem_of_getElem? (i := 22) rfl)
theorem lf_X12_150 : Cond.fieldLink RX12 150 (TX12 45).1 (TX12 45).2.1 (TX12 45).2.2.1 ∈ lw_g := wb_20_in _ (List.mem_of_getElem? (i := 23) rfl)
theorem lf_X12_153 : Cond.fieldLink RX12 153 (TX12 46).1 (TX12 46).2.1 (TX12 46).2.2.1 ∈ lw_g := wb_20_in _ (List.mem_of_getElem? (i := 24) rfl)
theorem lf_X12_156 : Cond.fieldLink RX12 156 (TX12 47).1 (TX12 47).2.1 (TX12 47).2.2.1 ∈ lw_g := wb_20_in _ (List.mem_of_getElem? (i := 25) rfl)
theorem lf_X12_159 : Cond.fieldLink RX12 159 (TX12 48).1 (TX12 48).2.1 (TX12 48).2.2.1 ∈ lw_g := wb_20_in _ (List.mem_of_getElem? (i := 26) rfl)
theorem lf_X12_162 : Cond.fieldLink RX12 162 (TX12 49).1 (TX12 49).2.1 (TX12 49).2.2.1 ∈ lw_g := wb_20_in _ (List.mem_of_getElem? (i := 27) rfl)
theorem lf_X12_165 : Cond.fieldLink RX12 165 (TX12 50).1 (TX12 50).2.1 (TX12 50).2.2.1 ∈ lw_g := wb_20_in _ (List.mem_of_getElem? (i := 28) rfl)
theorem lf_X12_168 : Cond.fieldLink RX12 168 (TX12 51).1 (TX12 51).2.1 (TX12 51).2.2.1 ∈ lw_g := wb_20_in _ (List.mem_of_getElem? (i := 29) rfl)
theorem lf_X12_171 : Cond.fieldLink RX12 171 (TX12 52).1 (TX12 52).2.1 (TX12 52).2.2.1 ∈ lw_g := wb_20_in _ (List.mem_of_getElem? (i := 30) rfl)
theorem lf_X12_174 : Cond.fieldLink RX12 174 (TX12 53).1 (TX12 53).2.1 (TX12 53).2.2.1 ∈ lw_g := wb_20_in _ (List.mem_of_getElem? (i := 31) rfl)
theorem lf_X12_177 : Cond.fieldLink RX12 177 (TX12 54).1 (TX12 54).2.1 (TX12 54).2.2.1 ∈ lw_g := wb_20_in _ (List.mem_of_getElem? (i := 32) rfl)
theorem lf_X12_180 : Cond.fieldLink RX12 180 (TX12 55).1 (TX12 55).2.1 (TX12 55).2.2.1 ∈ lw_g := wb_20_in _ (List.mem_of_getElem? (i := 33) rfl)
theorem lf_X12_183 : Cond.fieldLink RX12 183 (TX12 56).1 (TX12 56).2.1 (TX12 56).2.2.1 ∈ lw_g := wb_20_in _ (List.mem_of_getElem? (i := 34) rfl)
theorem lf_X12_186 : Cond.fieldLink RX12 186 (TX12 57).1 (TX12 57).2.1 (TX12 57).2.2.1 ∈ lw_g := wb_20_in _ (List.mem_of_getElem? (i := 35) rfl)
theorem lf_X12_189 : Cond.fieldLink RX12 189 (TX12 58).1 (TX12 58).2.1 (TX12 58).2.2.1 ∈ lw_g := wb_20_in _ (List.mem_of_getElem? (i := 36) rfl)
theorem lf_X12_192 : Cond.fieldLink RX12 192 (TX12 59).1 (TX12 59).2.1 (TX12 59).2.2.1 ∈ lw_g := wb_20_in _ (List.mem_of_getElem? (i := 37) rfl)
theorem lf_X12_195 : Cond.fieldLink RX12 195 (TX12 60).1 (TX12 60).2.1 (TX12 60).2.2.1 ∈ lw_g := wb_20_in _ (List.mem_of_getElem? (i := 38) rfl)
theorem lf_X12_198 : Cond.fieldLink RX12 198 (TX12 61).1 (TX12 61).2.1 (TX12 61).2.2.1 ∈ lw_g := wb_20_in _ (List.mem_of_getElem? (i := 39) rfl)
def wb_21_l : List Cond := [Cond.fieldLink RX12 201 (TX12 62).1 (TX12 62).2.1 (TX12 62).2.2.1, Cond.fieldLink RX12 204 (TX12 63).1 (TX12 63).2.1 (TX12 63).2.2.1, Cond.fieldLink RX12 207 (TX12 64).1 (TX12 64).2.1 (TX12 64).2.2.1, Cond.fieldLink RX12 210 (TX12 65).1 (TX12 65).2.1 (TX12 65).2.2.1, Cond.fieldLink RX12 213 (TX12 66).1 (TX12 66).2.1 (TX12 66).2.2.1, Cond.fieldLink RX12 216 (TX12 67).1 (TX12 67).2.1 (TX12 67).2.2.1, Cond.fieldLink RX12 219 (TX12 68).1 (TX12 68).2.1 (TX12 68).2.2.1, Cond.fieldLink RX12 222 (TX12 69).1 (TX12 69).2.1 (TX12 69).2.2.1, Cond.fieldLink RX12 225 (TX12 70).1 (TX12 70).2.1 (TX12 70).2.2.1, Cond.fieldLink RX12 228 (TX12 71).1 (TX12 71).2.1 (TX12 71).2.2.1, Cond.methodLink RX12 231 yX12_isDefault, Cond.methodLink RX12 235 yX12_refuses, Cond.methodLink RX12 239 yX12_put, Cond.methodLink RX12 242 yX12_blame, Cond.methodLink RX12 246 yX12_isLetter, Cond.methodLink RX12 250 yX12_isDigit, Cond.methodLink RX12 253 yX12_lex, Cond.methodLink RX12 256 yX12_isSign, Cond.methodLink RX12 259 yX12_ahead, Cond.constantLong RX12 262 (439905906546), Cond.constantLong RX12 264 (25209), Cond.constantLong RX12 266 (1735550329), Cond.constantLong RX12 268 (6451064), Cond.constantLong RX12 270 (24948), Cond.constantLong RX12 272 (7823737), Cond.constantLong RX12 274 (1702454643), Cond.constantLong RX12 276 (418497262196), Cond.constantLong RX12 278 (418363302244), Cond.constantLong RX12 280 (1651073395), Cond.constantLong RX12 282 (126943754547827), Cond.constantLong RX12 284 (1735353715), Cond.constantLong RX12 286 (482906432882), Cond.constantLong RX12 288 (1818324336), Cond.constantLong RX12 290 (6513012), Cond.constantLong RX12 292 (1818584692), Cond.constantLong RX12 294 (491394656372), Cond.constantLong RX12 296 (7170404), Cond.constantLong RX12 298 (1819243380), Cond.constantLong RX12 300 (1937007984), Cond.constantLong RX12 302 (128047779833188)]
theorem wb_21_in : ∀ w ∈ wb_21_l, w ∈ lw_g := lw_rows [1227, 1228, 1229, 1230, 1231, 1232, 1233, 1234, 1235, 1236, 1161, 1387, 1391, 1426, 1407, 1410, 1422, 1446, 1403, 1417, 1441, 1458, 1467, 1480, 1481, 1482, 1483, 1484, 1485, 1486, 1487, 1488, 1489, 1490, 1491, 1492, 1493, 1494, 1495, 1496] (by decide +kernel) (by decide +kernel)
theorem lf_X12_201 : Cond.fieldLink RX12 201 (TX12 62).1 (TX12 62).2.1 (TX12 62).2.2.1 ∈ lw_g := wb_21_in _ (List.mem_of_getElem? (i := 0) rfl)
theorem lf_X12_204 : Cond.fieldLink RX12 204 (TX12 63).1 (TX12 63).2.1 (TX12 63).2.2.1 ∈ lw_g := wb_21_in _ (List.mem_of_getElem? (i := 1) rfl)
theorem lf_X12_207 : Cond.fieldLink RX12 207 (TX12 64).1 (TX12 64).2.1 (TX12 64).2.2.1 ∈ lw_g := wb_21_in _ (List.mem_of_getElem? (i := 2) rfl)
theorem lf_X12_210 : Cond.fieldLink RX12 210 (TX12 65).1 (TX12 65).2.1 (TX12 65).2.2.1 ∈ lw_g := wb_21_in _ (List.mem_of_getElem? (i := 3) rfl)
theorem lf_X12_213 : Cond.fieldLink RX12 213 (TX12 66).1 (TX12 66).2.1 (TX12 66).2.2.1 ∈ lw_g := wb_21_in _ (List.mem_of_getElem? (i := 4) rfl)
theorem lf_X12_216 : Cond.fieldLink RX12 216 (TX12 67).1 (TX12 67).2.1 (TX12 67).2.2.1 ∈ lw_g := wb_21_in _ (List.mem_of_getElem? (i := 5) rfl)
theorem lf_X12_219 : Cond.fieldLink RX12 219 (TX12 68).1 (TX12 68).2.1 (TX12 68).2.2.1 ∈ lw_g := wb_21_in _ (List.mem_of_getElem? (i := 6) rfl)
theorem lf_X12_222 : Cond.fieldLink RX12 222 (TX12 69).1 (TX12 69).2.1 (TX12 69).2.2.1 ∈ lw_g := wb_21_in _ (List.mem_of_getElem? (i := 7) rfl)
theorem lf_X12_225 : Cond.fieldLink RX12 225 (TX12 70).1 (TX12 70).2.1 (TX12 70).2.2.1 ∈ lw_g := wb_21_in _ (List.mem_of_getElem? (i := 8) rfl)
theorem lf_X12_228 : Cond.fieldLink RX12 228 (TX12 71).1 (TX12 71).2.1 (TX12 71).2.2.1 ∈ lw_g := wb_21_in _ (List.mem_of_getElem? (i := 9) rfl)
theorem lm_X12_231 : Cond.methodLink RX12 231 yX12_isDefault ∈ lw_g := wb_21_in _ (List.mem_of_getElem? (i := 10) rfl)
theorem lm_X12_235 : Cond.methodLink RX12 235 yX12_refuses ∈ lw_g := wb_21_in _ (List.mem_of_getElem? (i := 11) rfl)
theorem lm_X12_239 : Cond.methodLink RX12 239 yX12_put ∈ lw_g := wb_21_in _ (List.mem_of_getElem? (i := 12) rfl)
theorem lm_X12_242 : Cond.methodLink RX12 242 yX12_blame ∈ lw_g := wb_21_in _ (List.mem_of_getElem? (i := 13) rfl)
theorem lm_X12_246 : Cond.methodLink RX12 246 yX12_isLetter ∈ lw_g := wb_21_in _ (List.mem_of_getElem? (i := 14) rfl)
theorem lm_X12_250 : Cond.methodLink RX12 250 yX12_isDigit ∈ lw_g := wb_21_in _ (List.mem_of_getElem? (i := 15) rfl)
theorem lm_X12_253 : Cond.methodLink RX12 253 yX12_lex ∈ lw_g := wb_21_in _ (List.mem_of_getElem? (i := 16) rfl)
theorem lm_X12_256 : Cond.methodLink RX12 256 yX12_isSign ∈ lw_g := wb_21_in _ (List.mem_of_getElem? (i := 17) rfl)
theorem lm_X12_259 : Cond.methodLink RX12 259 yX12_ahead ∈ lw_g := wb_21_in _ (List.mem_of_getElem? (i := 18) rfl)
theorem lc_X12_262 : Cond.constantLong RX12 262 (439905906546) ∈ lw_g := wb_21_in _ (List.mem_of_getElem? (i := 19) rfl)
theorem lc_X12_264 : Cond.constantLong RX12 264 (25209) ∈ lw_g := wb_21_in _ (List.mem_of_getElem? (i := 20) rfl)
theorem lc_X12_266 : Cond.constantLong RX12 266 (1735550329) ∈ lw_g := wb_21_in _ (List.mem_of_getElem? (i := 21) rfl)
theorem lc_X12_268 : Cond.constantLong RX12 268 (6451064) ∈ lw_g := wb_21_in _ (List.mem_of_getElem? (i := 22) rfl)
theorem lc_X12_270 : Cond.constantLong RX12 270 (24948) ∈ lw_g := wb_21_in _ (List.mem_of_getElem? (i := 23) rfl)
theorem lc_X12_272 : Cond.constantLong RX12 272 (7823737) ∈ lw_g := wb_21_in _ (List.mem_of_getElem? (i := 24) rfl)
theorem lc_X12_274 : Cond.constantLong RX12 274 (1702454643) ∈ lw_g := wb_21_in _ (List.mem_of_getElem? (i := 25) rfl)
theorem lc_X12_276 : Cond.constantLong RX12 276 (418497262196) ∈ lw_g := wb_21_in _ (List.mem_of_getElem? (i := 26) rfl)
theorem lc_X12_278 : Cond.constantLong RX12 278 (418363302244) ∈ lw_g := wb_21_in _ (List.mem_of_getElem? (i := 27) rfl)
theorem lc_X12_280 : Cond.constantLong RX12 280 (1651073395) ∈ lw_g := wb_21_in _ (List.mem_of_getElem? (i := 28) rfl)
theorem lc_X12_282 : Cond.constantLong RX12 282 (126943754547827) ∈ lw_g := wb_21_in _ (List.mem_of_getElem? (i := 29) rfl)
theorem lc_X12_284 : Cond.constantLong RX12 284 (1735353715) ∈ lw_g := wb_21_in _ (List.mem_of_getElem? (i := 30) rfl)
theorem lc_X12_286 : Cond.constantLong RX12 286 (482906432882) ∈ lw_g := wb_21_in _ (List.mem_of_getElem? (i := 31) rfl)
theorem lc_X12_288 : Cond.constantLong RX12 288 (1818324336) ∈ lw_g := wb_21_in _ (List.mem_of_getElem? (i := 32) rfl)
theorem lc_X12_290 : Cond.constantLong RX12 290 (6513012) ∈ lw_g := wb_21_in _ (List.mem_of_getElem? (i := 33) rfl)
theorem lc_X12_292 : Cond.constantLong RX12 292 (1818584692) ∈ lw_g := wb_21_in _ (List.mem_of_getElem? (i := 34) rfl)
theorem lc_X12_294 : Cond.constantLong RX12 294 (491394656372) ∈ lw_g := wb_21_in _ (List.mem_of_getElem? (i := 35) rfl)
theorem lc_X12_296 : Cond.constantLong RX12 296 (7170404) ∈ lw_g := wb_21_in _ (List.mem_of_getElem? (i := 36) rfl)
theorem lc_X12_298 : Cond.constantLong RX12 298 (1819243380) ∈ lw_g := wb_21_in _ (List.mem_of_getElem? (i := 37) rfl)
theorem lc_X12_300 : Cond.constantLong RX12 300 (1937007984) ∈ lw_g := wb_21_in _ (List.mem_of_getElem? (i := 38) rfl)
theorem lc_X12_302 : Cond.constantLong RX12 302 (128047779833188) ∈ lw_g := wb_21_in _ (List.mem_of_getElem? (i := 39) rfl)
def wb_22_l : List Cond := [Cond.constantLong RX12 304 (26982), Cond.constantLong RX12 306 (28530), Cond.constantLong RX12 308 (6385252), Cond.constantLong RX12 310 (7237492), Cond.constantLong RX12 312 (6384748), Cond.constantLong RX12 314 (7170414), Cond.constantLong RX12 316 (7168376), Cond.methodLink RX12 318 yX12_is, Cond.methodLink RX12 322 yX12_rank, Cond.methodLink RX12 325 yX12_add, Cond.methodLink RX12 328 yX12_pushes, Cond.methodLink RX12 331 yX12_isTest, Cond.methodLink RX12 334 yX12_isWord, Cond.methodLink RX12 338 yX12_holdsBack, Cond.methodLink RX12 341 yX12_opens, Cond.methodLink RX12 344 yX12_joins, Cond.methodLink RX12 347 yX12_operand, Cond.methodLink RX12 350 yX12_goesOn, Cond.methodLink RX12 353 yX12_isOwn, Cond.methodLink RX12 356 yX12_named, Cond.methodLink RX12 360 yX12_must_, Cond.methodLink RX12 364 yX12_number, Cond.methodLink RX12 368 yX12_counts, Cond.methodLink RX12 372 yX12_fresh, Cond.methodLink RX12 376 yX12_known, Cond.methodLink RX12 380 yX12_reads, Cond.methodLink RX12 384 yX12_greying, Cond.methodLink RX12 387 yX12_boxing, Cond.methodLink RX12 390 yX12_eyeing, Cond.methodLink RX12 393 yX12_biasing, Cond.methodLink RX12 396 yX12_reading, Cond.methodLink RX12 399 yX12_telling, Cond.methodLink RX12 402 yX12_must, Cond.methodLink RX12 404 yX12_begins, Cond.methodLink RX12 406 yX12_finishes, Cond.methodLink RX12 409 yX12_statement, Cond.methodLink RX12 412 yX12_begin, Cond.methodLink RX12 415 yX12_toldOf, Cond.methodLink RX12 418 yX12_slot, Cond.methodLink RX12 421 yX12_copies]
theorem wb_22_in : ∀ w ∈ wb_22_l, w ∈ lw_g := lw_rows [1497, 1498, 1499, 1500, 1501, 1502, 1503, 1438, 1559, 1547, 1528, 1536, 1430, 1539, 1543, 1555, 1532, 1551, 1476, 1504, 1418, 1434, 1463, 1472, 1512, 1524, 1459, 1468, 1508, 1516, 1520, 1562, 1450, 1413, 1442, 1454, 1566, 1570, 1586, 1590] (by decide +kernel) (by decide +kernel)
theorem lc_X12_304 : Cond.constantLong RX12 304 (26982) ∈ lw_g := wb_22_in _ (List.mem_of_getElem? (i := 0) rfl)
theorem lc_X12_306 : Cond.constantLong RX12 306 (28530) ∈ lw_g := wb_22_in _ (List.mem_of_getElem? (i := 1) rfl)
theorem lc_X12_308 : Cond.constantLong RX12 308 (6385252) ∈ lw_g := wb_22_in _ (List.mem_of_getElem? (i := 2) rfl)
theorem lc_X12_310 : Cond.constantLong RX12 310 (7237492) ∈ lw_g := wb_22_in _ (List.mem_of_getElem? (i := 3) rfl)
theorem lc_X12_312 : Cond.constantLong RX12 312 (6384748) ∈ lw_g := wb_22_in _ (List.mem_of_getElem? (i := 4) rfl)
theorem lc_X12_314 : Cond.constantLong RX12 314 (7170414) ∈ lw_g := wb_22_in _ (List.mem_of_getElem? (i := 5) rfl)
theorem lc_X12_316 : Cond.constantLong RX12 316 (7168376) ∈ lw_g := wb_22_in _ (List.mem_of_getElem? (i := 6) rfl)
theorem lm_X12_318 : Cond.methodLink RX12 318 yX12_is ∈ lw_g := wb_22_in _ (List.mem_of_getElem? (i := 7) rfl)
theorem lm_X12_322 : Cond.methodLink RX12 322 yX12_rank ∈ lw_g := wb_22_in _ (List.mem_of_getElem? (i := 8) rfl)
theorem lm_X12_325 : Cond.methodLink RX12 325 yX12_add ∈ lw_g := wb_22_in _ (List.mem_of_getElem? (i := 9) rfl)
theorem lm_X12_328 : Cond.methodLink RX12 328 yX12_pushes ∈ lw_g := wb_22_in _ (List.mem_of_getElem? (i := 10) rfl)
theorem lm_X12_331 : Cond.methodLink RX12 331 yX12_isTest ∈ lw_g := wb_22_in _ (List.mem_of_getElem? (i := 11) rfl)
theorem lm_X12_334 : Cond.methodLink RX12 334 yX12_isWord ∈ lw_g := wb_22_in _ (List.mem_of_getElem? (i := 12) rfl)
theorem lm_X12_338 : Cond.methodLink RX12 338 yX12_holdsBack ∈ lw_g := wb_22_in _ (List.mem_of_getElem? (i := 13) rfl)
theorem lm_X12_341 : Cond.methodLink RX12 341 yX12_opens ∈ lw_g := wb_22_in _ (List.mem_of_getElem? (i := 14) rfl)
theorem lm_X12_344 : Cond.methodLink RX12 344 yX12_joins ∈ lw_g := wb_22_in _ (List.mem_of_getElem? (i := 15) rfl)
theorem lm_X12_347 : Cond.methodLink RX12 347 yX12_operand ∈ lw_g := wb_22_in _ (List.mem_of_getElem? (i := 16) rfl)
theorem lm_X12_350 : Cond.methodLink RX12 350 yX12_goesOn ∈ lw_g := wb_22_in _ (List.mem_of_getElem? (i := 17) rfl)
theorem lm_X12_353 : Cond.methodLink RX12 353 yX12_isOwn ∈ lw_g := wb_22_in _ (List.mem_of_getElem? (i := 18) rfl)
theorem lm_X12_356 : Cond.methodLink RX12 356 yX12_named ∈ lw_g := wb_22_in _ (List.mem_of_getElem? (i := 19) rfl)
theorem lm_X12_360 : Cond.methodLink RX12 360 yX12_must_ ∈ lw_g := wb_22_in _ (List.mem_of_getElem? (i := 20) rfl)
theorem lm_X12_364 : Cond.methodLink RX12 364 yX12_number ∈ lw_g := wb_22_in _ (List.mem_of_getElem? (i := 21) rfl)
theorem lm_X12_368 : Cond.methodLink RX12 368 yX12_counts ∈ lw_g := wb_22_in _ (List.mem_of_getElem? (i := 22) rfl)
theorem lm_X12_372 : Cond.methodLink RX12 372 yX12_fresh ∈ lw_g := wb_22_in _ (List.mem_of_getElem? (i := 23) rfl)
theorem lm_X12_376 : Cond.methodLink RX12 376 yX12_known ∈ lw_g := wb_22_in _ (List.mem_of_getElem? (i := 24) rfl)
theorem lm_X12_380 : Cond.methodLink RX12 380 yX12_reads ∈ lw_g := wb_22_in _ (List.mem_of_getElem? (i := 25) rfl)
theorem lm_X12_384 : Cond.methodLink RX12 384 yX12_greying ∈ lw_g := wb_22_in _ (List.mem_of_getElem? (i := 26) rfl)
theorem lm_X12_387 : Cond.methodLink RX12 387 yX12_boxing ∈ lw_g := wb_22_in _ (List.mem_of_getElem? (i := 27) rfl)
theorem lm_X12_390 : Cond.methodLink RX12 390 yX12_eyeing ∈ lw_g := wb_22_in _ (List.mem_of_getElem? (i := 28) rfl)
theorem lm_X12_393 : Cond.methodLink RX12 393 yX12_biasing ∈ lw_g := wb_22_in _ (List.mem_of_getElem? (i := 29) rfl)
theorem lm_X12_396 : Cond.methodLink RX12 396 yX12_reading ∈ lw_g := wb_22_in _ (List.mem_of_getElem? (i := 30) rfl)
theorem lm_X12_399 : Cond.methodLink RX12 399 yX12_telling ∈ lw_g := wb_22_in _ (List.mem_of_getElem? (i := 31) rfl)
theorem lm_X12_402 : Cond.methodLink RX12 402 yX12_must ∈ lw_g := wb_22_in _ (List.mem_of_getElem? (i := 32) rfl)
theorem lm_X12_404 : Cond.methodLink RX12 404 yX12_begins ∈ lw_g := wb_22_in _ (List.mem_of_getElem? (i := 33) rfl)
theorem lm_X12_406 : Cond.methodLink RX12 406 yX12_finishes ∈ lw_g := wb_22_in _ (List.mem_of_getElem? (i := 34) rfl)
theorem lm_X12_409 : Cond.methodLink RX12 409 yX12_statement ∈ lw_g := wb_22_in _ (List.mem_of_getElem? (i := 35) rfl)
theorem lm_X12_412 : Cond.methodLink RX12 412 yX12_begin ∈ lw_g := wb_22_in _ (List.mem_of_getElem? (i := 36) rfl)
theorem lm_X12_415 : Cond.methodLink RX12 415 yX12_toldOf ∈ lw_g := wb_22_in _ (List.mem_of_getElem? (i := 37) rfl)
theorem lm_X12_418 : Cond.methodLink RX12 418 yX12_slot ∈ lw_g := wb_22_in _ (List.mem_of_getElem? (i := 38) rfl)
theorem lm_X12_421 : Cond.methodLink RX12 421 yX12_copies ∈ lw_g := wb_22_in _ (List.mem_of_getElem? (i := 39) rfl)
def wb_23_l : List Cond := [Cond.constantLong RX12 424 (1000000), Cond.constantLong RX12 426 (-1000000), Cond.methodLink RX12 428 yX12_held, Cond.methodLink RX12 432 yX12_floor, Cond.methodLink RX12 436 yX12_two, Cond.methodLink RX12 440 yX12_columnBy, Cond.methodLink RX12 443 yX12_rowBy, Cond.methodLink RX12 446 yX12_isOn, Cond.methodLink RX12 450 yX12_seen, Cond.methodLink RX12 453 yX12_apart, Cond.methodLink RX12 456 yX12_on, Cond.methodLink RX12 459 yX12_off, Cond.methodLink RX12 463 yX12_eye, Cond.methodLink RX12 467 yX12_isTold, Cond.methodLink RX12 470 yX12_reckons, Cond.methodLink RX12 474 yX12_steers, Cond.methodLink RX12 477 yX12_who, Cond.methodLink RX12 480 yX12_writesDown, Cond.methodLink RX12 483 yX12_bias, Cond.methodLink RX12 486 yX12_does, Cond.methodLink RX12 489 yX12_isBlack, Cond.methodLink RX12 492 yX12_isBox, Cond.constantLong RX12 495 (255), Cond.methodLink RX12 497 yX12_isAhead, Cond.methodLink RX12 500 yX12_passes, Cond.methodLink RX12 503 yX12_away, Cond.methodLink RX12 506 yX12_moves, Cond.methodLink RX12 510 yX12_walks, Cond.methodLink RX12 513 yX12_isTrack, Cond.constant RX12 516 (100000000), Cond.methodLink RX12 517 yX12_keeps, Cond.methodLink RX12 520 yX12_bits, Cond.constantLong RX12 523 (1103515245), Cond.constantLong RX12 525 (12345), Cond.constantLong RX12 527 (2147483648), Cond.constantLong RX12 529 (64), Cond.methodLink RX12 531 yX12_draw, Cond.methodLink RX12 534 yX12_writes, Cond.methodLink RX12 537 yX12_writesTwo, Cond.methodLink RX12 540 yX12_twoBytes]
theorem wb_23_in : ∀ w ∈ wb_23_l, w ∈ lw_g := lw_rows [1691, 1692, 1688, 1693, 1685, 1651, 1654, 1598, 1606, 1639, 1643, 1647, 1635, 1677, 1681, 1673, 1623, 1696, 1700, 1669, 1602, 1614, 1618, 1661, 1665, 1720, 1731, 1751, 1755, 1759, 1764, 1768, 1779, 1780, 1781, 1782, 1775, 1811, 1807, 1827] (by decide +kernel) (by decide +kernel)
theorem lc_X12_424 : Cond.constantLong RX12 424 (1000000) ∈ lw_g := wb_23_in _ (List.mem_of_getElem? (i := 0) rfl)
theorem lc_X12_426 : Cond.constantLong RX12 426 (-1000000) ∈ lw_g := wb_23_in _ (List.mem_of_getElem? (i := 1) rfl)
theorem lm_X12_428 : Cond.methodLink RX12 428 yX12_held ∈ lw_g := wb_23_in _ (List.mem_of_getElem? (i := 2) rfl)
theorem lm_X12_432 : Cond.methodLink RX12 432 yX12_floor ∈ lw_g := wb_23_in _ (List.mem_of_getElem? (i := 3) rfl)
theorem lm_X12_436 : Cond.methodLink RX12 436 yX12_two ∈ lw_g := wb_23_in _ (List.mem_of_getElem? (i := 4) rfl)
theorem lm_X12_440 : Cond.methodLink RX12 440 yX12_columnBy ∈ lw_g := wb_23_in _ (List.mem_of_getElem? (i := 5) rfl)
theorem lm_X12_443 : Cond.methodLink RX12 443 yX12_rowBy ∈ lw_g := wb_23_in _ (List.mem_of_getElem? (i := 6) rfl)
theorem lm_X12_446 : Cond.methodLink RX12 446 yX12_isOn ∈ lw_g := wb_23_in _ (List.mem_of_getElem? (i := 7) rfl)
theorem lm_X12_450 : Cond.methodLink RX12 450 yX12_seen ∈ lw_g := wb_23_in _ (List.mem_of_getElem? (i := 8) rfl)
theorem lm_X12_453 : Cond.methodLink RX12 453 yX12_apart ∈ lw_g := wb_23_in _ (List.mem_of_getElem? (i := 9) rfl)
theorem lm_X12_456 : Cond.methodLink RX12 456 yX12_on ∈ lw_g := wb_23_in _ (List.mem_of_getElem? (i := 10) rfl)
theorem lm_X12_459 : Cond.methodLink RX12 459 yX12_off ∈ lw_g := wb_23_in _ (List.mem_of_getElem? (i := 11) rfl)
theorem lm_X12_463 : Cond.methodLink RX12 463 yX12_eye ∈ lw_g := wb_23_in _ (List.mem_of_getElem? (i := 12) rfl)
theorem lm_X12_467 : Cond.methodLink RX12 467 yX12_isTold ∈ lw_g := wb_23_in _ (List.mem_of_getElem? (i := 13) rfl)
theorem lm_X12_470 : Cond.methodLink RX12 470 yX12_reckons ∈ lw_g := wb_23_in _ (List.mem_of_getElem? (i := 14) rfl)
theorem lm_X12_474 : Cond.methodLink RX12 474 yX12_steers ∈ lw_g := wb_23_in _ (List.mem_of_getElem? (i := 15) rfl)
theorem lm_X12_477 : Cond.methodLink RX12 477 yX12_who ∈ lw_g := wb_23_in _ (List.mem_of_getElem? (i := 16) rfl)
theorem lm_X12_480 : Cond.methodLink RX12 480 yX12_writesDown ∈ lw_g := wb_23_in _ (List.mem_of_getElem? (i := 17) rfl)
theorem lm_X12_483 : Cond.methodLink RX12 483 yX12_bias ∈ lw_g := wb_23_in _ (List.mem_of_getElem? (i := 18) rfl)
theorem lm_X12_486 : Cond.methodLink RX12 486 yX12_does ∈ lw_g := wb_23_in _ (List.mem_of_getElem? (i := 19) rfl)
theorem lm_X12_489 : Cond.methodLink RX12 489 yX12_isBlack ∈ lw_g := wb_23_in _ (List.mem_of_getElem? (i := 20) rfl)
theorem lm_X12_492 : Cond.methodLink RX12 492 yX12_isBox ∈ lw_g := wb_23_in _ (List.mem_of_getElem? (i := 21) rfl)
theorem lc_X12_495 : Cond.constantLong RX12 495 (255) ∈ lw_g := wb_23_in _ (List.mem_of_getElem? (i := 22) rfl)
theorem lm_X12_497 : Cond.methodLink RX12 497 yX12_isAhead ∈ lw_g := wb_23_in _ (List.mem_of_getElem? (i := 23) rfl)
theorem lm_X12_500 : Cond.methodLink RX12 500 yX12_passes ∈ lw_g := wb_23_in _ (List.mem_of_getElem? (i := 24) rfl)
theorem lm_X12_503 : Cond.methodLink RX12 503 yX12_away ∈ lw_g := wb_23_in _ (List.mem_of_getElem? (i := 25) rfl)
theorem lm_X12_506 : Cond.methodLink RX12 506 yX12_moves ∈ lw_g := wb_23_in _ (List.mem_of_getElem? (i := 26) rfl)
theorem lm_X12_510 : Cond.methodLink RX12 510 yX12_walks ∈ lw_g := wb_23_in _ (List.mem_of_getElem? (i := 27) rfl)
theorem lm_X12_513 : Cond.methodLink RX12 513 yX12_isTrack ∈ lw_g := wb_23_in _ (List.mem_of_getElem? (i := 28) rfl)
theorem lc_X12_516 : Cond.constant RX12 516 (100000000) ∈ lw_g := wb_23_in _ (List.mem_of_getElem? (i := 29) rfl)
theorem lm_X12_517 : Cond.methodLink RX12 517 yX12_keeps ∈ lw_g := wb_23_in _ (List.mem_of_getElem? (i := 30) rfl)
theorem lm_X12_520 : Cond.methodLink RX12 520 yX12_bits ∈ lw_g := wb_23_in _ (List.mem_of_getElem? (i := 31) rfl)
theorem lc_X12_523 : Cond.constantLong RX12 523 (1103515245) ∈ lw_g := wb_23_in _ (List.mem_of_getElem? (i := 32) rfl)
theorem lc_X12_525 : Cond.constantLong RX12 525 (12345) ∈ lw_g := wb_23_in _ (List.mem_of_getElem? (i := 33) rfl)
theorem lc_X12_527 : Cond.constantLong RX12 527 (2147483648) ∈ lw_g := wb_23_in _ (List.mem_of_getElem? (i := 34) rfl)
theorem lc_X12_529 : Cond.constantLong RX12 529 (64) ∈ lw_g := wb_23_in _ (List.mem_of_getElem? (i := 35) rfl)
theorem lm_X12_531 : Cond.methodLink RX12 531 yX12_draw ∈ lw_g := wb_23_in _ (List.mem_of_getElem? (i := 36) rfl)
theorem lm_X12_534 : Cond.methodLink RX12 534 yX12_writes ∈ lw_g := wb_23_in _ (List.mem_of_getElem? (i := 37) rfl)
theorem lm_X12_537 : Cond.methodLink RX12 537 yX12_writesTwo ∈ lw_g := wb_23_in _ (List.mem_of_getElem? (i := 38) rfl)
theorem lm_X12_540 : Cond.methodLink RX12 540 yX12_twoBytes ∈ lw_g := wb_23_in _ (List.mem_of_getElem? (i := 39) rfl)
def wb_24_l : List Cond := [Cond.methodLink RX12 543 yX12_boxOn, Cond.methodLink RX12 546 yX12_comesOn, Cond.methodLink RL 9 yX11_init, Cond.methodLink RL 12 yX12_init, Cond.methodLink RL 13 yX11_feed, Cond.methodLink RL 17 yX12_feed, Cond.methodLink RL 18 yX11_end, Cond.methodLink RL 22 yX12_end, Cond.methodLink RL 23 yX11_kitchen, Cond.methodLink RL 27 yX12_kitchen, Cond.methodLink RL 28 yX11_fault, Cond.methodLink RL 32 yX12_fault, Cond.methodLink RL 33 yX11_has, Cond.methodLink RL 36 yX12_has, Cond.methodLink RL 37 yX11_letter, Cond.methodLink RL 41 yX12_letter, Cond.methodLink RL 42 yX11_cell, Cond.methodLink RL 46 yX12_cell, Cond.methodLink RL 47 yX11_box, Cond.methodLink RL 50 yX12_box, Cond.methodLink RL 51 yX11_sees, Cond.methodLink RL 54 yX12_sees, Cond.methodLink RL 55 yX11_later, Cond.methodLink RL 58 yX12_later, Cond.methodLink RL 59 yX11_round, Cond.methodLink RL 62 yX12_round, Cond.methodLink RL 63 yX11_loses, Cond.methodLink RL 66 yX12_loses, Cond.methodLink RL 67 yX11_jam, Cond.methodLink RL 70 yX12_jam, Cond.methodLink RL 71 yX11_gap, Cond.methodLink RL 74 yX12_gap, Cond.methodLink RL 75 yX11_tuned, Cond.methodLink RL 78 yX12_tuned, Cond.methodLink RL 79 yX11_found, Cond.methodLink RL 82 yX12_found, Cond.methodLink RL 83 yX11_spaced, Cond.methodLink RL 86 yX12_spaced, Cond.methodLink RL 87 yX11_bright, Cond.methodLink RL 90 yX12_bright]
theorem wb_24_in : ∀ w ∈ wb_24_l, w ∈ lw_g := lw_rows [1831, 1823, 23, 1157, 461, 1383, 477, 1395, 481, 1399, 726, 1574, 730, 1594, 765, 1610, 771, 1619, 783, 1627, 788, 1631, 805, 1657, 874, 1704, 887, 1708, 895, 1712, 903, 1716, 919, 1723, 935, 1727, 953, 1735, 961, 1739] (by decide +kernel) (by decide +kernel)
theorem lm_X12_543 : Cond.methodLink RX12 543 yX12_boxOn ∈ lw_g := wb_24_in _ (List.mem_of_getElem? (i := 0) rfl)
theorem lm_X12_546 : Cond.methodLink RX12 546 yX12_comesOn ∈ lw_g := wb_24_in _ (List.mem_of_getElem? (i := 1) rfl)
theorem lm_L_9 : Cond.methodLink RL 9 yX11_init ∈ lw_g := wb_24_in _ (List.mem_of_getElem? (i := 2) rfl)
theorem lm_L_12 : Cond.methodLink RL 12 yX12_init ∈ lw_g := wb_24_in _ (List.mem_of_getElem? (i := 3) rfl)
theorem lm_L_13 : Cond.methodLink RL 13 yX11_feed ∈ lw_g := wb_24_in _ (List.mem_of_getElem? (i := 4) rfl)
theorem lm_L_17 : Cond.methodLink RL 17 yX12_feed ∈ lw_g := wb_24_in _ (List.mem_of_getElem? (i := 5) rfl)
theorem lm_L_18 : Cond.methodLink RL 18 yX11_end ∈ lw_g := wb_24_in _ (List.mem_of_getElem? (i := 6) rfl)
theorem lm_L_22 : Cond.methodLink RL 22 yX12_end ∈ lw_g := wb_24_in _ (List.mem_of_getElem? (i := 7) rfl)
theorem lm_L_23 : Cond.methodLink RL 23 yX11_kitchen ∈ lw_g := wb_24_in _ (List.mem_of_getElem? (i := 8) rfl)
theorem lm_L_27 : Cond.methodLink RL 27 yX12_kitchen ∈ lw_g := wb_24_in _ (List.mem_of_getElem? (i := 9) rfl)
theorem lm_L_28 : Cond.methodLink RL 28 yX11_fault ∈ lw_g := wb_24_in _ (List.mem_of_getElem? (i := 10) rfl)
theorem lm_L_32 : Cond.methodLink RL 32 yX12_fault ∈ lw_g := wb_24_in _ (List.mem_of_getElem? (i := 11) rfl)
theorem lm_L_33 : Cond.methodLink RL 33 yX11_has ∈ lw_g := wb_24_in _ (List.mem_of_getElem? (i := 12) rfl)
theorem lm_L_36 : Cond.methodLink RL 36 yX12_has ∈ lw_g := wb_24_in _ (List.mem_of_getElem? (i := 13) rfl)
theorem lm_L_37 : Cond.methodLink RL 37 yX11_letter ∈ lw_g := wb_24_in _ (List.mem_of_getElem? (i := 14) rfl)
theorem lm_L_41 : Cond.methodLink RL 41 yX12_letter ∈ lw_g := wb_24_in _ (List.mem_of_getElem? (i := 15) rfl)
theorem lm_L_42 : Cond.methodLink RL 42 yX11_cell ∈ lw_g := wb_24_in _ (List.mem_of_getElem? (i := 16) rfl)
theorem lm_L_46 : Cond.methodLink RL 46 yX12_cell ∈ lw_g := wb_24_in _ (List.mem_of_getElem? (i := 17) rfl)
theorem lm_L_47 : Cond.methodLink RL 47 yX11_box ∈ lw_g := wb_24_in _ (List.mem_of_getElem? (i := 18) rfl)
theorem lm_L_50 : Cond.methodLink RL 50 yX12_box ∈ lw_g := wb_24_in _ (List.mem_of_getElem? (i := 19) rfl)
theorem lm_L_51 : Cond.methodLink RL 51 yX11_sees ∈ lw_g := wb_24_in _ (List.mem_of_getElem? (i := 20) rfl)
theorem lm_L_54 : Cond.methodLink RL 54 yX12_sees ∈ lw_g := wb_24_in _ (List.mem_of_getElem? (i := 21) rfl)
theorem lm_L_55 : Cond.methodLink RL 55 yX11_later ∈ lw_g := wb_24_in _ (List.mem_of_getElem? (i := 22) rfl)
theorem lm_L_58 : Cond.methodLink RL 58 yX12_later ∈ lw_g := wb_24_in _ (List.mem_of_getElem? (i := 23) rfl)
theorem lm_L_59 : Cond.methodLink RL 59 yX11_round ∈ lw_g := wb_24_in _ (List.mem_of_getElem? (i := 24) rfl)
theorem lm_L_62 : Cond.methodLink RL 62 yX12_round ∈ lw_g := wb_24_in _ (List.mem_of_getElem? (i := 25) rfl)
theorem lm_L_63 : Cond.methodLink RL 63 yX11_loses ∈ lw_g := wb_24_in _ (List.mem_of_getElem? (i := 26) rfl)
theorem lm_L_66 : Cond.methodLink RL 66 yX12_loses ∈ lw_g := wb_24_in _ (List.mem_of_getElem? (i := 27) rfl)
theorem lm_L_67 : Cond.methodLink RL 67 yX11_jam ∈ lw_g := wb_24_in _ (List.mem_of_getElem? (i := 28) rfl)
theorem lm_L_70 : Cond.methodLink RL 70 yX12_jam ∈ lw_g := wb_24_in _ (List.mem_of_getElem? (i := 29) rfl)
theorem lm_L_71 : Cond.methodLink RL 71 yX11_gap ∈ lw_g := wb_24_in _ (List.mem_of_getElem? (i := 30) rfl)
theorem lm_L_74 : Cond.methodLink RL 74 yX12_gap ∈ lw_g := wb_24_in _ (List.mem_of_getElem? (i := 31) rfl)
theorem lm_L_75 : Cond.methodLink RL 75 yX11_tuned ∈ lw_g := wb_24_in _ (List.mem_of_getElem? (i := 32) rfl)
theorem lm_L_78 : Cond.methodLink RL 78 yX12_tuned ∈ lw_g := wb_24_in _ (List.mem_of_getElem? (i := 33) rfl)
theorem lm_L_79 : Cond.methodLink RL 79 yX11_found ∈ lw_g := wb_24_in _ (List.mem_of_getElem? (i := 34) rfl)
theorem lm_L_82 : Cond.methodLink RL 82 yX12_found ∈ lw_g := wb_24_in _ (List.mem_of_getElem? (i := 35) rfl)
theorem lm_L_83 : Cond.methodLink RL 83 yX11_spaced ∈ lw_g := wb_24_in _ (List.mem_of_getElem? (i := 36) rfl)
theorem lm_L_86 : Cond.methodLink RL 86 yX12_spaced ∈ lw_g := wb_24_in _ (List.mem_of_getElem? (i := 37) rfl)
theorem lm_L_87 : Cond.methodLink RL 87 yX11_bright ∈ lw_g := wb_24_in _ (List.mem_of_getElem? (i := 38) rfl)
theorem lm_L_90 : Cond.methodLink RL 90 yX12_bright ∈ lw_g := wb_24_in _ (List.mem_of_getElem? (i := 39) rfl)
def wb_25_l : List Cond := [Cond.methodLink RL 91 yX11_track, Cond.methodLink RL 94 yX12_track, Cond.methodLink RL 95 yX11_wheel, Cond.methodLink RL 98 yX12_wheel, Cond.methodLink RL 99 yX11_steps, Cond.methodLink RL 102 yX12_steps, Cond.methodLink RL 103 yX11_chance, Cond.methodLink RL 106 yX12_chance, Cond.methodLink RL 107 yX11_turn, Cond.methodLink RL 111 yX12_turn, Cond.methodLink RL 112 yX11_put, Cond.methodLink RL 116 yX12_put_, Cond.methodLink RL 117 yX11_shine, Cond.methodLink RL 120 yX12_shine, Cond.methodLink RL 121 yX11_undo, Cond.methodLink RL 125 yX12_undo, Cond.methodLink RL 126 yX11_seed, Cond.methodLink RL 129 yX12_seed, Cond.methodLink RL 130 yX11_kept, Cond.methodLink RL 133 yX12_kept, Cond.methodLink RL 134 yX11_image, Cond.methodLink RL 137 yX12_image, Cond.methodLink RL 138 yX11_octet, Cond.methodLink RL 141 yX12_octet, Cond.methodLink RL 142 yX11_on, Cond.methodLink RL 145 yX12_on_, Cond.methodLink RL 146 yX11_status, Cond.methodLink RL 149 yX12_status, Cond.native arraycopyName, Cond.static arraycopyName]
theorem wb_25_in : ∀ w ∈ wb_25_l, w ∈ lw_g := lw_rows [970, 1743, 980, 1747, 1019, 1760, 1045, 1771, 1062, 1783, 1067, 1787, 1071, 1791, 1075, 1582, 1087, 1795, 1091, 1799, 1100, 1803, 1124, 1815, 1129, 1819, 1151, 1578, 716, 715] (by decide +kernel) (by decide +kernel)
theorem lm_L_91 : Cond.methodLink RL 91 yX11_track ∈ lw_g := wb_25_in _ (List.mem_of_getElem? (i := 0) rfl)
theorem lm_L_94 : Cond.methodLink RL 94 yX12_track ∈ lw_g := wb_25_in _ (List.mem_of_getElem? (i := 1) rfl)
theorem lm_L_95 : Cond.methodLink RL 95 yX11_wheel ∈ lw_g := wb_25_in _ (List.mem_of_getElem? (i := 2) rfl)
theorem lm_L_98 : Cond.methodLink RL 98 yX12_wheel ∈ lw_g := wb_25_in _ (List.mem_of_getElem? (i := 3) rfl)
theorem lm_L_99 : Cond.methodLink RL 99 yX11_steps ∈ lw_g := wb_25_in _ (List.mem_of_getElem? (i := 4) rfl)
theorem lm_L_102 : Cond.methodLink RL 102 yX12_steps ∈ lw_g := wb_25_in _ (List.mem_of_getElem? (i := 5) rfl)
theorem lm_L_103 : Cond.methodLink RL 103 yX11_chance ∈ lw_g := wb_25_in _ (List.mem_of_getElem? (i := 6) rfl)
theorem lm_L_106 : Cond.methodLink RL 106 yX12_chance ∈ lw_g := wb_25_in _ (List.mem_of_getElem? (i := 7) rfl)
theorem lm_L_107 : Cond.methodLink RL 107 yX11_turn ∈ lw_g := wb_25_in _ (List.mem_of_getElem? (i := 8) rfl)
theorem lm_L_111 : Cond.methodLink RL 111 yX12_turn ∈ lw_g := wb_25_in _ (List.mem_of_getElem? (i := 9) rfl)
theorem lm_L_112 : Cond.methodLink RL 112 yX11_put ∈ lw_g := wb_25_in _ (List.mem_of_getElem? (i := 10) rfl)
theorem lm_L_116 : Cond.methodLink RL 116 yX12_put_ ∈ lw_g := wb_25_in _ (List.mem_of_getElem? (i := 11) rfl)
theorem lm_L_117 : Cond.methodLink RL 117 yX11_shine ∈ lw_g := wb_25_in _ (List.mem_of_getElem? (i := 12) rfl)
theorem lm_L_120 : Cond.methodLink RL 120 yX12_shine ∈ lw_g := wb_25_in _ (List.mem_of_getElem? (i := 13) rfl)
theorem lm_L_121 : Cond.methodLink RL 121 yX11_undo ∈ lw_g := wb_25_in _ (List.mem_of_getElem? (i := 14) rfl)
theorem lm_L_125 : Cond.methodLink RL 125 yX12_undo ∈ lw_g := wb_25_in _ (List.mem_of_getElem? (i := 15) rfl)
theorem lm_L_126 : Cond.methodLink RL 126 yX11_seed ∈ lw_g := wb_25_in _ (List.mem_of_getElem? (i := 16) rfl)
theorem lm_L_129 : Cond.methodLink RL 129 yX12_seed ∈ lw_g := wb_25_in _ (List.mem_of_getElem? (i := 17) rfl)
theorem lm_L_130 : Cond.methodLink RL 130 yX11_kept ∈ lw_g := wb_25_in _ (List.mem_of_getElem? (i := 18) rfl)
theorem lm_L_133 : Cond.methodLink RL 133 yX12_kept ∈ lw_g := wb_25_in _ (List.mem_of_getElem? (i := 19) rfl)
theorem lm_L_134 : Cond.methodLink RL 134 yX11_image ∈ lw_g := wb_25_in _ (List.mem_of_getElem? (i := 20) rfl)
theorem lm_L_137 : Cond.methodLink RL 137 yX12_image ∈ lw_g := wb_25_in _ (List.mem_of_getElem? (i := 21) rfl)
theorem lm_L_138 : Cond.methodLink RL 138 yX11_octet ∈ lw_g := wb_25_in _ (List.mem_of_getElem? (i := 22) rfl)
theorem lm_L_141 : Cond.methodLink RL 141 yX12_octet ∈ lw_g := wb_25_in _ (List.mem_of_getElem? (i := 23) rfl)
theorem lm_L_142 : Cond.methodLink RL 142 yX11_on ∈ lw_g := wb_25_in _ (List.mem_of_getElem? (i := 24) rfl)
theorem lm_L_145 : Cond.methodLink RL 145 yX12_on_ ∈ lw_g := wb_25_in _ (List.mem_of_getElem? (i := 25) rfl)
theorem lm_L_146 : Cond.methodLink RL 146 yX11_status ∈ lw_g := wb_25_in _ (List.mem_of_getElem? (i := 26) rfl)
theorem lm_L_149 : Cond.methodLink RL 149 yX12_status ∈ lw_g := wb_25_in _ (List.mem_of_getElem? (i := 27) rfl)
theorem ka_nat : Cond.native arraycopyName ∈ lw_g := wb_25_in _ (List.mem_of_getElem? (i := 28) rfl)
theorem ka_stat : Cond.static arraycopyName ∈ lw_g := wb_25_in _ (List.mem_of_getElem? (i := 29) rfl)
def wk_0_l : List Cond := [Cond.code yX0_init cX0_init 2 none, Cond.code yX0_stateBehind cX0_stateBehind 6 (some .int), Cond.code yX0_stepsRound cX0_stepsRound 5 (some .int), Cond.code yX0_isAsIn cX0_isAsIn 3 (some .boolean), Cond.code yX0_stepsToLoss cX0_stepsToLoss 6 (some .int), Cond.code yX0_firstJam cX0_firstJam 4 (some .int), Cond.code yX0_nearest cX0_nearest 7 (some .int), Cond.code yX0_distance cX0_distance 3 (some .int), Cond.code yX0_bestEyes cX0_bestEyes 11 (some .int), Cond.code yX0_blackSteps cX0_blackSteps 5 (some .int), Cond.code yX0_fewestMoves cX0_fewestMoves 12 (some .int), Cond.code yX0_reach cX0_reach 6 none, Cond.code yX0_leastDelay cX0_leastDelay 6 (some .int), Cond.code yX0_brightestLamp cX0_brightestLamp 5 (some .int), Cond.code yX1_init cX1_init 3 none, Cond.code yX1_readSteers cX1_readSteers 2 none, Cond.code yX1_readGoes cX1_readGoes 2 none, Cond.code yX1_test cX1_test 3 none, Cond.code yX1_both cX1_both 3 none, Cond.code yX1_fact cX1_fact 2 none, Cond.code yX1_comparison cX1_comparison 3 none, Cond.code yX1_sum cX1_sum 4 none, Cond.code yX1_product cX1_product 4 none, Cond.code yX1_productSign cX1_productSign 1 (some .int), Cond.code yX1_part cX1_part 2 none, Cond.code yX1_choice cX1_choice 3 none, Cond.code yX1_known cX1_known 3 none, Cond.code yX1_knownOf cX1_knownOf 1 (some .int), Cond.code yX1_passOpening cX1_passOpening 2 (some .boolean), Cond.code yX2_init cX2_init 1 none, Cond.code yX2_valueOf cX2_valueOf 12 (some .int), Cond.code yX2_needsOf cX2_needsOf 1 (some .int), Cond.code yX2_joined cX2_joined 5 (some .long), Cond.code yX3_init cX3_init 1 none, Cond.code yX3_forget cX3_forget 1 none, Cond.code yX3_told cX3_told 1 (some .int), Cond.code yX3_remember cX3_remember 3 none, Cond.code yX3_restore cX3_restore 3 none, Cond.code yX3_keepStep cX3_keepStep 5 none, Cond.code yX3_keptPart cX3_keptPart 4 (some .int)]
set_option maxRecDepth 20000 in
theorem wk_0_in : ∀ w ∈ wk_0_l, w ∈ lw_g := lw_rows [334, 821, 881, 886, 894, 902, 910, 914, 926, 930, 942, 947, 960, 968, 247, 632, 699, 672, 676, 680, 684, 637, 641, 695, 645, 668, 688, 691, 657, 280, 840, 844, 847, 379, 385, 761, 1026, 1082, 1043, 1098] rfl (by decide +kernel)
theorem kc_X0_init : Cond.code yX0_init cX0_init 2 none ∈ lw_g := wk_0_in _ (List.mem_of_getElem? (i := 0) rfl)
theorem kc_X0_stateBehind : Cond.code yX0_stateBehind cX0_stateBehind 6 (some .int) ∈ lw_g := wk_0_in _ (List.mem_of_getElem? (i := 1) rfl)
theorem kc_X0_stepsRound : Cond.code yX0_stepsRound cX0_stepsRound 5 (some .int) ∈ lw_g := wk_0_in _ (List.mem_of_getElem? (i := 2) rfl)
theorem kc_X0_isAsIn : Cond.code yX0_isAsIn cX0_isAsIn 3 (some .boolean) ∈ lw_g := wk_0_in _ (List.mem_of_getElem? (i := 3) rfl)
theorem kc_X0_stepsToLoss : Cond.code yX0_stepsToLoss cX0_stepsToLoss 6 (some .int) ∈ lw_g := wk_0_in _ (List.mem_of_getElem? (i := 4) rfl)
theorem kc_X0_firstJam : Cond.code yX0_firstJam cX0_firstJam 4 (some .int) ∈ lw_g := wk_0_in _ (List.mem_of_getElem? (i := 5) rfl)
theorem kc_X0_nearest : Cond.code yX0_nearest cX0_nearest 7 (some .int) ∈ lw_g := wk_0_in _ (List.mem_of_getElem? (i := 6) rfl)
theorem kc_X0_distance : Cond.code yX0_distance cX0_distance 3 (some .int) ∈ lw_g := wk_0_in _ (List.mem_of_getElem? (i := 7) rfl)
theorem kc_X0_bestEyes : Cond.code yX0_bestEyes cX0_bestEyes 11 (some .int) ∈ lw_g := wk_0_in _ (List.mem_of_getElem? (i := 8) rfl)
theorem kc_X0_blackSteps : Cond.code yX0_blackSteps cX0_blackSteps 5 (some .int) ∈ lw_g := wk_0_in _ (List.mem_of_getElem? (i := 9) rfl)
theorem kc_X0_fewestMoves : Cond.code yX0_fewestMoves cX0_fewestMoves 12 (some .int) ∈ lw_g := wk_0_in _ (List.mem_of_getElem? (i := 10) rfl)
theorem kc_X0_reach : Cond.code yX0_reach cX0_reach 6 none ∈ lw_g := wk_0_in _ (List.mem_of_getElem? (i := 11) rfl)
theorem kc_X0_leastDelay : Cond.code yX0_leastDelay cX0_leastDelay 6 (some .int) ∈ lw_g := wk_0_in _ (List.mem_of_getElem? (i := 12) rfl)
theorem kc_X0_brightestLamp : Cond.code yX0_brightestLamp cX0_brightestLamp 5 (some .int) ∈ lw_g := wk_0_in _ (List.mem_of_getElem? (i := 13) rfl)
theorem kc_X1_init : Cond.code yX1_init cX1_init 3 none ∈ lw_g := wk_0_in _ (List.mem_of_getElem? (i := 14) rfl)
theorem kc_X1_readSteers : Cond.code yX1_readSteers cX1_readSteers 2 none ∈ lw_g := wk_0_in _ (List.mem_of_getElem? (i := 15) rfl)
theorem kc_X1_readGoes : Cond.code yX1_readGoes cX1_readGoes 2 none ∈ lw_g := wk_0_in _ (List.mem_of_getElem? (i := 16) rfl)
theorem kc_X1_test : Cond.code yX1_test cX1_test 3 none ∈ lw_g := wk_0_in _ (List.mem_of_getElem? (i := 17) rfl)
theorem kc_X1_both : Cond.code yX1_both cX1_both 3 none ∈ lw_g := wk_0_in _ (List.mem_of_getElem? (i := 18) rfl)
theorem kc_X1_fact : Cond.code yX1_fact cX1_fact 2 none ∈ lw_g := wk_0_in _ (List.mem_of_getElem? (i := 19) rfl)
theorem kc_X1_comparison : Cond.code yX1_comparison cX1_comparison 3 none ∈ lw_g := wk_0_in _ (List.mem_of_getElem? (i := 20) rfl)
theorem kc_X1_sum : Cond.code yX1_sum cX1_sum 4 none ∈ lw_g := wk_0_in _ (List.mem_of_getElem? (i := 21) rfl)
theorem kc_X1_product : Cond.code yX1_product cX1_product 4 none ∈ lw_g := wk_0_in _ (List.mem_of_getElem? (i := 22) rfl)
theorem kc_X1_productSign : Cond.code yX1_productSign cX1_productSign 1 (some .int) ∈ lw_g := wk_0_in _ (List.mem_of_getElem? (i := 23) rfl)
theorem kc_X1_part : Cond.code yX1_part cX1_part 2 none ∈ lw_g := wk_0_in _ (List.mem_of_getElem? (i := 24) rfl)
theorem kc_X1_choice : Cond.code yX1_choice cX1_choice 3 none ∈ lw_g := wk_0_in _ (List.mem_of_getElem? (i := 25) rfl)
theorem kc_X1_known : Cond.code yX1_known cX1_known 3 none ∈ lw_g := wk_0_in _ (List.mem_of_getElem? (i := 26) rfl)
theorem kc_X1_knownOf : Cond.code yX1_knownOf cX1_knownOf 1 (some .int) ∈ lw_g := wk_0_in _ (List.mem_of_getElem? (i := 27) rfl)
theorem kc_X1_passOpening : Cond.code yX1_passOpening cX1_passOpening 2 (some .boolean) ∈ lw_g := wk_0_in _ (List.mem_of_getElem? (i := 28) rfl)
theorem kc_X2_init : Cond.code yX2_init cX2_init 1 none ∈ lw_g := wk_0_in _ (List.mem_of_getElem? (i := 29) rfl)
theorem kc_X2_valueOf : Cond.code yX2_valueOf cX2_valueOf 12 (some .int) ∈ lw_g := wk_0_in _ (List.mem_of_getElem? (i := 30) rfl)
theorem kc_X2_needsOf : Cond.code yX2_needsOf cX2_needsOf 1 (some .int) ∈ lw_g := wk_0_in _ (List.mem_of_getElem? (i := 31) rfl)
theorem kc_X2_joined : Cond.code yX2_joined cX2_joined 5 (some .long) ∈ lw_g := wk_0_in _ (List.mem_of_getElem? (i := 32) rfl)
theorem kc_X3_init : Cond.code yX3_init cX3_init 1 none ∈ lw_g := wk_0_in _ (List.mem_of_getElem? (i := 33) rfl)
theorem kc_X3_forget : Cond.code yX3_forget cX3_forget 1 none ∈ lw_g := wk_0_in _ (List.mem_of_getElem? (i := 34) rfl)
theorem kc_X3_told : Cond.code yX3_told cX3_told 1 (some .int) ∈ lw_g := wk_0_in _ (List.mem_of_getElem? (i := 35) rfl)
theorem kc_X3_remember : Cond.code yX3_remember cX3_remember 3 none ∈ lw_g := wk_0_in _ (List.mem_of_getElem? (i := 36) rfl)
theorem kc_X3_restore : Cond.code yX3_restore cX3_restore 3 none ∈ lw_g := wk_0_in _ (List.mem_of_getElem? (i := 37) rfl)
theorem kc_X3_keepStep : Cond.code yX3_keepStep cX3_keepStep 5 none ∈ lw_g := wk_0_in _ (List.mem_of_getElem? (i := 38) rfl)
theorem kc_X3_keptPart : Cond.code yX3_keptPart cX3_keptPart 4 (some .int) ∈ lw_g := wk_0_in _ (List.mem_of_getElem? (i := 39) rfl)
def wk_1_l : List Cond := [Cond.code yX4_init cX4_init 2 none, Cond.code yX4_byteAt cX4_byteAt 2 (some .int), Cond.code yX4_write cX4_write 4 (some .int), Cond.code yX4_readInto cX4_readInto 7 (some .boolean), Cond.code yX4_readBox cX4_readBox 6 (some .boolean), Cond.code yX4_checkedBy cX4_checkedBy 2 (some .int), Cond.code yX4_addPair cX4_addPair 2 none, Cond.code yX4_add cX4_add 2 none, Cond.code yX5_init cX5_init 1 none, Cond.code yX5_clear cX5_clear 1 none, Cond.code yX5_shiftOf cX5_shiftOf 1 (some .int), Cond.code yX5_hasSteers cX5_hasSteers 1 (some .boolean), Cond.code yX5_hasGoes cX5_hasGoes 1 (some .boolean), Cond.code yX5_hasBox cX5_hasBox 2 (some .boolean), Cond.code yX5_hasCell cX5_hasCell 3 (some .boolean), Cond.code yX5_greyAt cX5_greyAt 4 (some .int), Cond.code yX5_setGrey cX5_setGrey 5 none, Cond.code yX5_boxNamed cX5_boxNamed 3 (some .int), Cond.code yX5_boxStartingOn cX5_boxStartingOn 3 (some .int), Cond.code yX5_addBox cX5_addBox 5 none, Cond.code yX5_setStart cX5_setStart 5 none, Cond.code yX5_emit cX5_emit 3 none, Cond.code yX6_init cX6_init 3 none, Cond.code yX6_readInto cX6_readInto 3 (some .int), Cond.code yX6_readStatement cX6_readStatement 3 none, Cond.code yX6_refuseOneTooMany cX6_refuseOneTooMany 5 none, Cond.code yX6_readFloor cX6_readFloor 1 none, Cond.code yX6_readGrey cX6_readGrey 3 none, Cond.code yX6_readBox cX6_readBox 4 none, Cond.code yX6_readEyes cX6_readEyes 2 none, Cond.code yX6_readBias cX6_readBias 2 none, Cond.code yX6_readSetting cX6_readSetting 2 none, Cond.code yX6_takeNewName cX6_takeNewName 2 (some .int), Cond.code yX6_takeBoxName cX6_takeBoxName 2 (some .int), Cond.code yX7_init cX7_init 1 none, Cond.code yX7_hasSpaceFor cX7_hasSpaceFor 2 (some .boolean), Cond.code yX7_add cX7_add 3 none, Cond.code yX7_at cX7_at 2 (some .int), Cond.code yX7_pairAt cX7_pairAt 2 (some .int), Cond.code yX8_init cX8_init 6 none]
set_option maxRecDepth 20000 in
theorem wk_1_in : ∀ w ∈ wk_1_l, w ∈ lw_g := lw_rows [407, 1120, 1107, 1136, 1147, 1123, 1111, 1115, 51, 56, 198, 551, 555, 615, 584, 745, 580, 596, 600, 607, 611, 649, 139, 488, 542, 547, 559, 576, 588, 619, 628, 703, 592, 623, 33, 468, 476, 501, 1142, 145] rfl (by decide +kernel)
theorem kc_X4_init : Cond.code yX4_init cX4_init 2 none ∈ lw_g := wk_1_in _ (List.mem_of_getElem? (i := 0) rfl)
theorem kc_X4_byteAt : Cond.code yX4_byteAt cX4_byteAt 2 (some .int) ∈ lw_g := wk_1_in _ (List.mem_of_getElem? (i := 1) rfl)
theorem kc_X4_write : Cond.code yX4_write cX4_write 4 (some .int) ∈ lw_g := wk_1_in _ (List.mem_of_getElem? (i := 2) rfl)
theorem kc_X4_readInto : Cond.code yX4_readInto cX4_readInto 7 (some .boolean) ∈ lw_g := wk_1_in _ (List.mem_of_getElem? (i := 3) rfl)
theorem kc_X4_readBox : Cond.code yX4_readBox cX4_readBox 6 (some .boolean) ∈ lw_g := wk_1_in _ (List.mem_of_getElem? (i := 4) rfl)
theorem kc_X4_checkedBy : Cond.code yX4_checkedBy cX4_checkedBy 2 (some .int) ∈ lw_g := wk_1_in _ (List.mem_of_getElem? (i := 5) rfl)
theorem kc_X4_addPair : Cond.code yX4_addPair cX4_addPair 2 none ∈ lw_g := wk_1_in _ (List.mem_of_getElem? (i := 6) rfl)
theorem kc_X4_add : Cond.code yX4_add cX4_add 2 none ∈ lw_g := wk_1_in _ (List.mem_of_getElem? (i := 7) rfl)
theorem kc_X5_init : Cond.code yX5_init cX5_init 1 none ∈ lw_g := wk_1_in _ (List.mem_of_getElem? (i := 8) rfl)
theorem kc_X5_clear : Cond.code yX5_clear cX5_clear 1 none ∈ lw_g := wk_1_in _ (List.mem_of_getElem? (i := 9) rfl)
theorem kc_X5_shiftOf : Cond.code yX5_shiftOf cX5_shiftOf 1 (some .int) ∈ lw_g := wk_1_in _ (List.mem_of_getElem? (i := 10) rfl)
theorem kc_X5_hasSteers : Cond.code yX5_hasSteers cX5_hasSteers 1 (some .boolean) ∈ lw_g := wk_1_in _ (List.mem_of_getElem? (i := 11) rfl)
theorem kc_X5_hasGoes : Cond.code yX5_hasGoes cX5_hasGoes 1 (some .boolean) ∈ lw_g := wk_1_in _ (List.mem_of_getElem? (i := 12) rfl)
theorem kc_X5_hasBox : Cond.code yX5_hasBox cX5_hasBox 2 (some .boolean) ∈ lw_g := wk_1_in _ (List.mem_of_getElem? (i := 13) rfl)
theorem kc_X5_hasCell : Cond.code yX5_hasCell cX5_hasCell 3 (some .boolean) ∈ lw_g := wk_1_in _ (List.mem_of_getElem? (i := 14) rfl)
theorem kc_X5_greyAt : Cond.code yX5_greyAt cX5_greyAt 4 (some .int) ∈ lw_g := wk_1_in _ (List.mem_of_getElem? (i := 15) rfl)
theorem kc_X5_setGrey : Cond.code yX5_setGrey cX5_setGrey 5 none ∈ lw_g := wk_1_in _ (List.mem_of_getElem? (i := 16) rfl)
theorem kc_X5_boxNamed : Cond.code yX5_boxNamed cX5_boxNamed 3 (some .int) ∈ lw_g := wk_1_in _ (List.mem_of_getElem? (i := 17) rfl)
theorem kc_X5_boxStartingOn : Cond.code yX5_boxStartingOn cX5_boxStartingOn 3 (some .int) ∈ lw_g := wk_1_in _ (List.mem_of_getElem? (i := 18) rfl)
theorem kc_X5_addBox : Cond.code yX5_addBox cX5_addBox 5 none ∈ lw_g := wk_1_in _ (List.mem_of_getElem? (i := 19) rfl)
theorem kc_X5_setStart : Cond.code yX5_setStart cX5_setStart 5 none ∈ lw_g := wk_1_in _ (List.mem_of_getElem? (i := 20) rfl)
theorem kc_X5_emit : Cond.code yX5_emit cX5_emit 3 none ∈ lw_g := wk_1_in _ (List.mem_of_getElem? (i := 21) rfl)
theorem kc_X6_init : Cond.code yX6_init cX6_init 3 none ∈ lw_g := wk_1_in _ (List.mem_of_getElem? (i := 22) rfl)
theorem kc_X6_readInto : Cond.code yX6_readInto cX6_readInto 3 (some .int) ∈ lw_g := wk_1_in _ (List.mem_of_getElem? (i := 23) rfl)
theorem kc_X6_readStatement : Cond.code yX6_readStatement cX6_readStatement 3 none ∈ lw_g := wk_1_in _ (List.mem_of_getElem? (i := 24) rfl)
theorem kc_X6_refuseOneTooMany : Cond.code yX6_refuseOneTooMany cX6_refuseOneTooMany 5 none ∈ lw_g := wk_1_in _ (List.mem_of_getElem? (i := 25) rfl)
theorem kc_X6_readFloor : Cond.code yX6_readFloor cX6_readFloor 1 none ∈ lw_g := wk_1_in _ (List.mem_of_getElem? (i := 26) rfl)
theorem kc_X6_readGrey : Cond.code yX6_readGrey cX6_readGrey 3 none ∈ lw_g := wk_1_in _ (List.mem_of_getElem? (i := 27) rfl)
theorem kc_X6_readBox : Cond.code yX6_readBox cX6_readBox 4 none ∈ lw_g := wk_1_in _ (List.mem_of_getElem? (i := 28) rfl)
theorem kc_X6_readEyes : Cond.code yX6_readEyes cX6_readEyes 2 none ∈ lw_g := wk_1_in _ (List.mem_of_getElem? (i := 29) rfl)
theorem kc_X6_readBias : Cond.code yX6_readBias cX6_readBias 2 none ∈ lw_g := wk_1_in _ (List.mem_of_getElem? (i := 30) rfl)
theorem kc_X6_readSetting : Cond.code yX6_readSetting cX6_readSetting 2 none ∈ lw_g := wk_1_in _ (List.mem_of_getElem? (i := 31) rfl)
theorem kc_X6_takeNewName : Cond.code yX6_takeNewName cX6_takeNewName 2 (some .int) ∈ lw_g := wk_1_in _ (List.mem_of_getElem? (i := 32) rfl)
theorem kc_X6_takeBoxName : Cond.code yX6_takeBoxName cX6_takeBoxName 2 (some .int) ∈ lw_g := wk_1_in _ (List.mem_of_getElem? (i := 33) rfl)
theorem kc_X7_init : Cond.code yX7_init cX7_init 1 none ∈ lw_g := wk_1_in _ (List.mem_of_getElem? (i := 34) rfl)
theorem kc_X7_hasSpaceFor : Cond.code yX7_hasSpaceFor cX7_hasSpaceFor 2 (some .boolean) ∈ lw_g := wk_1_in _ (List.mem_of_getElem? (i := 35) rfl)
theorem kc_X7_add : Cond.code yX7_add cX7_add 3 none ∈ lw_g := wk_1_in _ (List.mem_of_getElem? (i := 36) rfl)
theorem kc_X7_at : Cond.code yX7_at cX7_at 2 (some .int) ∈ lw_g := wk_1_in _ (List.mem_of_getElem? (i := 37) rfl)
theorem kc_X7_pairAt : Cond.code yX7_pairAt cX7_pairAt 2 (some .int) ∈ lw_g := wk_1_in _ (List.mem_of_getElem? (i := 38) rfl)
theorem kc_X8_init : Cond.code yX8_init cX8_init 6 none ∈ lw_g := wk_1_in _ (List.mem_of_getElem? (i := 39) rfl)
def wk_2_l : List Cond := [Cond.code yX8_open cX8_open 3 none, Cond.code yX8_scan cX8_scan 4 (some .boolean), Cond.code yX8_startSolid cX8_startSolid 5 (some .boolean), Cond.code yX8_add cX8_add 4 none, Cond.code yX8_addLetter cX8_addLetter 6 (some .boolean), Cond.code yX8_addDigit cX8_addDigit 5 (some .boolean), Cond.code yX8_markOwnWord cX8_markOwnWord 3 none, Cond.code yX8_isBlank cX8_isBlank 1 (some .boolean), Cond.code yX8_isLetter cX8_isLetter 1 (some .boolean), Cond.code yX8_isDigit cX8_isDigit 1 (some .boolean), Cond.code yX8_refuseHere cX8_refuseHere 2 none, Cond.code yX8_next cX8_next 1 none, Cond.code yX8_refuseMore cX8_refuseMore 2 none, Cond.code yX8_isMark cX8_isMark 2 (some .boolean), Cond.code yX8_isWord cX8_isWord 2 (some .boolean), Cond.code yX8_takeMark cX8_takeMark 2 none, Cond.code yX8_takeWord cX8_takeWord 2 none, Cond.code yX8_takeNumber cX8_takeNumber 4 (some .int), Cond.code yX9_init cX9_init 2 none, Cond.code yX9_forget cX9_forget 1 none, Cond.code yX9_takeRows cX9_takeRows 5 (some .boolean), Cond.code yX9_biasBits cX9_biasBits 3 (some .int), Cond.code yX9_bitsLeft cX9_bitsLeft 3 (some .int), Cond.code yX9_tellingSteps cX9_tellingSteps 9 (some .int), Cond.code yX9_followAll cX9_followAll 6 none, Cond.code yX9_placeOf cX9_placeOf 2 (some .int), Cond.code yX9_fitsRows cX9_fitsRows 6 (some .boolean), Cond.code yX9_mostLeft cX9_mostLeft 8 (some .int), Cond.code yX10_init cX10_init 2 none, Cond.code yX10_columnStep cX10_columnStep 1 (some .int), Cond.code yX10_rowStep cX10_rowStep 1 (some .int), Cond.code yX10_boxIn cX10_boxIn 6 (some .int), Cond.code yX10_begin cX10_begin 3 none, Cond.code yX10_copyFrom cX10_copyFrom 2 none, Cond.code yX10_saveTo cX10_saveTo 2 none, Cond.code yX10_loadFrom cX10_loadFrom 2 none, Cond.code yX10_of cX10_of 4 (some .int), Cond.code yX10_set cX10_set 5 none, Cond.code yX10_turnBy cX10_turnBy 3 none, Cond.code yX10_comingSteps cX10_comingSteps 2 (some .int)]
set_option maxRecDepth 20000 in
theorem wk_2_in : ∀ w ∈ wk_2_l, w ∈ lw_g := lw_rows [493, 497, 515, 522, 511, 526, 530, 504, 507, 518, 538, 534, 708, 653, 572, 662, 568, 564, 355, 725, 977, 987, 1005, 1013, 991, 1000, 1009, 1017, 274, 798, 801, 603, 713, 825, 1033, 1086, 753, 720, 865, 816] rfl (by decide +kernel)
theorem kc_X8_open : Cond.code yX8_open cX8_open 3 none ∈ lw_g := wk_2_in _ (List.mem_of_getElem? (i := 0) rfl)
theorem kc_X8_scan : Cond.code yX8_scan cX8_scan 4 (some .boolean) ∈ lw_g := wk_2_in _ (List.mem_of_getElem? (i := 1) rfl)
theorem kc_X8_startSolid : Cond.code yX8_startSolid cX8_startSolid 5 (some .boolean) ∈ lw_g := wk_2_in _ (List.mem_of_getElem? (i := 2) rfl)
theorem kc_X8_add : Cond.code yX8_add cX8_add 4 none ∈ lw_g := wk_2_in _ (List.mem_of_getElem? (i := 3) rfl)
theorem kc_X8_addLetter : Cond.code yX8_addLetter cX8_addLetter 6 (some .boolean) ∈ lw_g := wk_2_in _ (List.mem_of_getElem? (i := 4) rfl)
theorem kc_X8_addDigit : Cond.code yX8_addDigit cX8_addDigit 5 (some .boolean) ∈ lw_g := wk_2_in _ (List.mem_of_getElem? (i := 5) rfl)
theorem kc_X8_markOwnWord : Cond.code yX8_markOwnWord cX8_markOwnWord 3 none ∈ lw_g := wk_2_in _ (List.mem_of_getElem? (i := 6) rfl)
theorem kc_X8_isBlank : Cond.code yX8_isBlank cX8_isBlank 1 (some .boolean) ∈ lw_g := wk_2_in _ (List.mem_of_getElem? (i := 7) rfl)
theorem kc_X8_isLetter : Cond.code yX8_isLetter cX8_isLetter 1 (some .boolean) ∈ lw_g := wk_2_in _ (List.mem_of_getElem? (i := 8) rfl)
theorem kc_X8_isDigit : Cond.code yX8_isDigit cX8_isDigit 1 (some .boolean) ∈ lw_g := wk_2_in _ (List.mem_of_getElem? (i := 9) rfl)
theorem kc_X8_refuseHere : Cond.code yX8_refuseHere cX8_refuseHere 2 none ∈ lw_g := wk_2_in _ (List.mem_of_getElem? (i := 10) rfl)
theorem kc_X8_next : Cond.code yX8_next cX8_next 1 none ∈ lw_g := wk_2_in _ (List.mem_of_getElem? (i := 11) rfl)
theorem kc_X8_refuseMore : Cond.code yX8_refuseMore cX8_refuseMore 2 none ∈ lw_g := wk_2_in _ (List.mem_of_getElem? (i := 12) rfl)
theorem kc_X8_isMark : Cond.code yX8_isMark cX8_isMark 2 (some .boolean) ∈ lw_g := wk_2_in _ (List.mem_of_getElem? (i := 13) rfl)
theorem kc_X8_isWord : Cond.code yX8_isWord cX8_isWord 2 (some .boolean) ∈ lw_g := wk_2_in _ (List.mem_of_getElem? (i := 14) rfl)
theorem kc_X8_takeMark : Cond.code yX8_takeMark cX8_takeMark 2 none ∈ lw_g := wk_2_in _ (List.mem_of_getElem? (i := 15) rfl)
theorem kc_X8_takeWord : Cond.code yX8_takeWord cX8_takeWord 2 none ∈ lw_g := wk_2_in _ (List.mem_of_getElem? (i := 16) rfl)
theorem kc_X8_takeNumber : Cond.code yX8_takeNumber cX8_takeNumber 4 (some .int) ∈ lw_g := wk_2_in _ (List.mem_of_getElem? (i := 17) rfl)
theorem kc_X9_init : Cond.code yX9_init cX9_init 2 none ∈ lw_g := wk_2_in _ (List.mem_of_getElem? (i := 18) rfl)
theorem kc_X9_forget : Cond.code yX9_forget cX9_forget 1 none ∈ lw_g := wk_2_in _ (List.mem_of_getElem? (i := 19) rfl)
theorem kc_X9_takeRows : Cond.code yX9_takeRows cX9_takeRows 5 (some .boolean) ∈ lw_g := wk_2_in _ (List.mem_of_getElem? (i := 20) rfl)
theorem kc_X9_biasBits : Cond.code yX9_biasBits cX9_biasBits 3 (some .int) ∈ lw_g := wk_2_in _ (List.mem_of_getElem? (i := 21) rfl)
theorem kc_X9_bitsLeft : Cond.code yX9_bitsLeft cX9_bitsLeft 3 (some .int) ∈ lw_g := wk_2_in _ (List.mem_of_getElem? (i := 22) rfl)
theorem kc_X9_tellingSteps : Cond.code yX9_tellingSteps cX9_tellingSteps 9 (some .int) ∈ lw_g := wk_2_in _ (List.mem_of_getElem? (i := 23) rfl)
theorem kc_X9_followAll : Cond.code yX9_followAll cX9_followAll 6 none ∈ lw_g := wk_2_in _ (List.mem_of_getElem? (i := 24) rfl)
theorem kc_X9_placeOf : Cond.code yX9_placeOf cX9_placeOf 2 (some .int) ∈ lw_g := wk_2_in _ (List.mem_of_getElem? (i := 25) rfl)
theorem kc_X9_fitsRows : Cond.code yX9_fitsRows cX9_fitsRows 6 (some .boolean) ∈ lw_g := wk_2_in _ (List.mem_of_getElem? (i := 26) rfl)
theorem kc_X9_mostLeft : Cond.code yX9_mostLeft cX9_mostLeft 8 (some .int) ∈ lw_g := wk_2_in _ (List.mem_of_getElem? (i := 27) rfl)
theorem kc_X10_init : Cond.code yX10_init cX10_init 2 none ∈ lw_g := wk_2_in _ (List.mem_of_getElem? (i := 28) rfl)
theorem kc_X10_columnStep : Cond.code yX10_columnStep cX10_columnStep 1 (some .int) ∈ lw_g := wk_2_in _ (List.mem_of_getElem? (i := 29) rfl)
theorem kc_X10_rowStep : Cond.code yX10_rowStep cX10_rowStep 1 (some .int) ∈ lw_g := wk_2_in _ (List.mem_of_getElem? (i := 30) rfl)
theorem kc_X10_boxIn : Cond.code yX10_boxIn cX10_boxIn 6 (some .int) ∈ lw_g := wk_2_in _ (List.mem_of_getElem? (i := 31) rfl)
theorem kc_X10_begin : Cond.code yX10_begin cX10_begin 3 none ∈ lw_g := wk_2_in _ (List.mem_of_getElem? (i := 32) rfl)
theorem kc_X10_copyFrom : Cond.code yX10_copyFrom cX10_copyFrom 2 none ∈ lw_g := wk_2_in _ (List.mem_of_getElem? (i := 33) rfl)
theorem kc_X10_saveTo : Cond.code yX10_saveTo cX10_saveTo 2 none ∈ lw_g := wk_2_in _ (List.mem_of_getElem? (i := 34) rfl)
theorem kc_X10_loadFrom : Cond.code yX10_loadFrom cX10_loadFrom 2 none ∈ lw_g := wk_2_in _ (List.mem_of_getElem? (i := 35) rfl)
theorem kc_X10_of : Cond.code yX10_of cX10_of 4 (some .int) ∈ lw_g := wk_2_in _ (List.mem_of_getElem? (i := 36) rfl)
theorem kc_X10_set : Cond.code yX10_set cX10_set 5 none ∈ lw_g := wk_2_in _ (List.mem_of_getElem? (i := 37) rfl)
theorem kc_X10_turnBy : Cond.code yX10_turnBy cX10_turnBy 3 none ∈ lw_g := wk_2_in _ (List.mem_of_getElem? (i := 38) rfl)
theorem kc_X10_comingSteps : Cond.code yX10_comingSteps cX10_comingSteps 2 (some .int) ∈ lw_g := wk_2_in _ (List.mem_of_getElem? (i := 39) rfl)
def wk_3_l : List Cond := [Cond.code yX10_mayPass cX10_mayPass 4 (some .boolean), Cond.code yX10_boxOn cX10_boxOn 3 (some .int), Cond.code yX10_isBlack cX10_isBlack 3 (some .boolean), Cond.code yX10_onBlack cX10_onBlack 2 (some .boolean), Cond.code yX10_blackCells cX10_blackCells 4 (some .int), Cond.code yX10_lostBoxes cX10_lostBoxes 3 (some .int), Cond.code yX10_emptyBoxes cX10_emptyBoxes 3 (some .int), Cond.code yX10_greySeen cX10_greySeen 9 (some .int), Cond.code yX10_pass cX10_pass 4 none, Cond.code yX10_moveBox cX10_moveBox 7 none, Cond.code yX10_goAhead cX10_goAhead 5 none, Cond.code yX11_init cX11_init 1 none, Cond.code yX11_feed cX11_feed 6 (some .int), Cond.code yX11_end cX11_end 2 (some .boolean), Cond.code yX11_kitchen cX11_kitchen 3 (some .int), Cond.code yX11_fault cX11_fault 2 (some .int), Cond.code yX11_has cX11_has 2 (some .int), Cond.code yX11_letter cX11_letter 3 (some .int), Cond.code yX11_cell cX11_cell 4 (some .int), Cond.code yX11_box cX11_box 3 (some .int), Cond.code yX11_sees cX11_sees 3 (some .int), Cond.code yX11_later cX11_later 4 (some .int), Cond.code yX11_round cX11_round 2 (some .int), Cond.code yX11_loses cX11_loses 3 (some .int), Cond.code yX11_jam cX11_jam 1 (some .int), Cond.code yX11_gap cX11_gap 4 (some .int), Cond.code yX11_tuned cX11_tuned 4 (some .int), Cond.code yX11_found cX11_found 2 (some .int), Cond.code yX11_spaced cX11_spaced 2 (some .int), Cond.code yX11_bright cX11_bright 2 (some .int), Cond.code yX11_track cX11_track 2 (some .int), Cond.code yX11_wheel cX11_wheel 3 (some .int), Cond.code yX11_steps cX11_steps 4 (some .int), Cond.code yX11_chance cX11_chance 4 (some .int), Cond.code yX11_turn cX11_turn 3 (some .boolean), Cond.code yX11_put cX11_put 4 (some .boolean), Cond.code yX11_shine cX11_shine 2 (some .boolean), Cond.code yX11_undo cX11_undo 1 (some .boolean), Cond.code yX11_seed cX11_seed 2 (some .boolean), Cond.code yX11_kept cX11_kept 3 (some .int)]
set_option maxRecDepth 20000 in
theorem wk_3_in : ∀ w ∈ wk_3_l, w ∈ lw_g := lw_rows [812, 781, 741, 934, 737, 749, 757, 795, 830, 834, 870, 25, 464, 480, 484, 729, 733, 768, 774, 786, 791, 808, 877, 890, 898, 906, 922, 938, 956, 964, 973, 983, 1022, 1048, 1065, 1070, 1074, 1078, 1090, 1094] rfl (by decide +kernel)
theorem kc_X10_mayPass : Cond.code yX10_mayPass cX10_mayPass 4 (some .boolean) ∈ lw_g := wk_3_in _ (List.mem_of_getElem? (i := 0) rfl)
theorem kc_X10_boxOn : Cond.code yX10_boxOn cX10_boxOn 3 (some .int) ∈ lw_g := wk_3_in _ (List.mem_of_getElem? (i := 1) rfl)
theorem kc_X10_isBlack : Cond.code yX10_isBlack cX10_isBlack 3 (some .boolean) ∈ lw_g := wk_3_in _ (List.mem_of_getElem? (i := 2) rfl)
theorem kc_X10_onBlack : Cond.code yX10_onBlack cX10_onBlack 2 (some .boolean) ∈ lw_g := wk_3_in _ (List.mem_of_getElem? (i := 3) rfl)
theorem kc_X10_blackCells : Cond.code yX10_blackCells cX10_blackCells 4 (some .int) ∈ lw_g := wk_3_in _ (List.mem_of_getElem? (i := 4) rfl)
theorem kc_X10_lostBoxes : Cond.code yX10_lostBoxes cX10_lostBoxes 3 (some .int) ∈ lw_g := wk_3_in _ (List.mem_of_getElem? (i := 5) rfl)
theorem kc_X10_emptyBoxes : Cond.code yX10_emptyBoxes cX10_emptyBoxes 3 (some .int) ∈ lw_g := wk_3_in _ (List.mem_of_getElem? (i := 6) rfl)
theorem kc_X10_greySeen : Cond.code yX10_greySeen cX10_greySeen 9 (some .int) ∈ lw_g := wk_3_in _ (List.mem_of_getElem? (i := 7) rfl)
theorem kc_X10_pass : Cond.code yX10_pass cX10_pass 4 none ∈ lw_g := wk_3_in _ (List.mem_of_getElem? (i := 8) rfl)
theorem kc_X10_moveBox : Cond.code yX10_moveBox cX10_moveBox 7 none ∈ lw_g := wk_3_in _ (List.mem_of_getElem? (i := 9) rfl)
theorem kc_X10_goAhead : Cond.code yX10_goAhead cX10_goAhead 5 none ∈ lw_g := wk_3_in _ (List.mem_of_getElem? (i := 10) rfl)
theorem kc_X11_init : Cond.code yX11_init cX11_init 1 none ∈ lw_g := wk_3_in _ (List.mem_of_getElem? (i := 11) rfl)
theorem kc_X11_feed : Cond.code yX11_feed cX11_feed 6 (some .int) ∈ lw_g := wk_3_in _ (List.mem_of_getElem? (i := 12) rfl)
theorem kc_X11_end : Cond.code yX11_end cX11_end 2 (some .boolean) ∈ lw_g := wk_3_in _ (List.mem_of_getElem? (i := 13) rfl)
theorem kc_X11_kitchen : Cond.code yX11_kitchen cX11_kitchen 3 (some .int) ∈ lw_g := wk_3_in _ (List.mem_of_getElem? (i := 14) rfl)
theorem kc_X11_fault : Cond.code yX11_fault cX11_fault 2 (some .int) ∈ lw_g := wk_3_in _ (List.mem_of_getElem? (i := 15) rfl)
theorem kc_X11_has : Cond.code yX11_has cX11_has 2 (some .int) ∈ lw_g := wk_3_in _ (List.mem_of_getElem? (i := 16) rfl)
theorem kc_X11_letter : Cond.code yX11_letter cX11_letter 3 (some .int) ∈ lw_g := wk_3_in _ (List.mem_of_getElem? (i := 17) rfl)
theorem kc_X11_cell : Cond.code yX11_cell cX11_cell 4 (some .int) ∈ lw_g := wk_3_in _ (List.mem_of_getElem? (i := 18) rfl)
theorem kc_X11_box : Cond.code yX11_box cX11_box 3 (some .int) ∈ lw_g := wk_3_in _ (List.mem_of_getElem? (i := 19) rfl)
theorem kc_X11_sees : Cond.code yX11_sees cX11_sees 3 (some .int) ∈ lw_g := wk_3_in _ (List.mem_of_getElem? (i := 20) rfl)
theorem kc_X11_later : Cond.code yX11_later cX11_later 4 (some .int) ∈ lw_g := wk_3_in _ (List.mem_of_getElem? (i := 21) rfl)
theorem kc_X11_round : Cond.code yX11_round cX11_round 2 (some .int) ∈ lw_g := wk_3_in _ (List.mem_of_getElem? (i := 22) rfl)
theorem kc_X11_loses : Cond.code yX11_loses cX11_loses 3 (some .int) ∈ lw_g := wk_3_in _ (List.mem_of_getElem? (i := 23) rfl)
theorem kc_X11_jam : Cond.code yX11_jam cX11_jam 1 (some .int) ∈ lw_g := wk_3_in _ (List.mem_of_getElem? (i := 24) rfl)
theorem kc_X11_gap : Cond.code yX11_gap cX11_gap 4 (some .int) ∈ lw_g := wk_3_in _ (List.mem_of_getElem? (i := 25) rfl)
theorem kc_X11_tuned : Cond.code yX11_tuned cX11_tuned 4 (some .int) ∈ lw_g := wk_3_in _ (List.mem_of_getElem? (i := 26) rfl)
theorem kc_X11_found : Cond.code yX11_found cX11_found 2 (some .int) ∈ lw_g := wk_3_in _ (List.mem_of_getElem? (i := 27) rfl)
theorem kc_X11_spaced : Cond.code yX11_spaced cX11_spaced 2 (some .int) ∈ lw_g := wk_3_in _ (List.mem_of_getElem? (i := 28) rfl)
theorem kc_X11_bright : Cond.code yX11_bright cX11_bright 2 (some .int) ∈ lw_g := wk_3_in _ (List.mem_of_getElem? (i := 29) rfl)
theorem kc_X11_track : Cond.code yX11_track cX11_track 2 (some .int) ∈ lw_g := wk_3_in _ (List.mem_of_getElem? (i := 30) rfl)
theorem kc_X11_wheel : Cond.code yX11_wheel cX11_wheel 3 (some .int) ∈ lw_g := wk_3_in _ (List.mem_of_getElem? (i := 31) rfl)
theorem kc_X11_steps : Cond.code yX11_steps cX11_steps 4 (some .int) ∈ lw_g := wk_3_in _ (List.mem_of_getElem? (i := 32) rfl)
theorem kc_X11_chance : Cond.code yX11_chance cX11_chance 4 (some .int) ∈ lw_g := wk_3_in _ (List.mem_of_getElem? (i := 33) rfl)
theorem kc_X11_turn : Cond.code yX11_turn cX11_turn 3 (some .boolean) ∈ lw_g := wk_3_in _ (List.mem_of_getElem? (i := 34) rfl)
theorem kc_X11_put : Cond.code yX11_put cX11_put 4 (some .boolean) ∈ lw_g := wk_3_in _ (List.mem_of_getElem? (i := 35) rfl)
theorem kc_X11_shine : Cond.code yX11_shine cX11_shine 2 (some .boolean) ∈ lw_g := wk_3_in _ (List.mem_of_getElem? (i := 36) rfl)
theorem kc_X11_undo : Cond.code yX11_undo cX11_undo 1 (some .boolean) ∈ lw_g := wk_3_in _ (List.mem_of_getElem? (i := 37) rfl)
theorem kc_X11_seed : Cond.code yX11_seed cX11_seed 2 (some .boolean) ∈ lw_g := wk_3_in _ (List.mem_of_getElem? (i := 38) rfl)
theorem kc_X11_kept : Cond.code yX11_kept cX11_kept 3 (some .int) ∈ lw_g := wk_3_in _ (List.mem_of_getElem? (i := 39) rfl)
def wk_4_l : List Cond := [Cond.code yX11_image cX11_image 1 (some .int), Cond.code yX11_octet cX11_octet 2 (some .int), Cond.code yX11_on cX11_on 2 (some .boolean), Cond.code yX11_status cX11_status 2 (some .int), Cond.code yX11_refuse cX11_refuse 2 (some .int), Cond.code yX11_passStep cX11_passStep 1 (some .int), Cond.code yX11_letCatCome cX11_letCatCome 1 (some .boolean), Cond.code yX11_draw cX11_draw 4 (some .int), Cond.code yX12_init cX12_init 2 none, Cond.code yX12_is cX12_is 3 (some .boolean), Cond.code yX12_put cX12_put 3 none, Cond.code yX12_feed cX12_feed 6 (some .int), Cond.code yX12_end cX12_end 2 (some .boolean), Cond.code yX12_blame cX12_blame 3 none, Cond.code yX12_isLetter cX12_isLetter 1 (some .boolean), Cond.code yX12_isDigit cX12_isDigit 1 (some .boolean), Cond.code yX12_lex cX12_lex 1 none, Cond.code yX12_ahead cX12_ahead 6 none, Cond.code yX12_isSign cX12_isSign 2 (some .boolean), Cond.code yX12_isWord cX12_isWord 3 (some .boolean), Cond.code yX12_must cX12_must 2 none, Cond.code yX12_isOwn cX12_isOwn 3 (some .boolean), Cond.code yX12_isDefault cX12_isDefault 2 none, Cond.code yX12_toldOf cX12_toldOf 2 (some .int), Cond.code yX12_named cX12_named 4 (some .int), Cond.code yX12_number cX12_number 4 (some .int), Cond.code yX12_add cX12_add 3 none, Cond.code yX12_rank cX12_rank 1 (some .int), Cond.code yX12_joins cX12_joins 2 none, Cond.code yX12_holdsBack cX12_holdsBack 2 none, Cond.code yX12_pushes cX12_pushes 2 none, Cond.code yX12_opens cX12_opens 2 none, Cond.code yX12_isTest cX12_isTest 1 (some .boolean), Cond.code yX12_operand cX12_operand 4 (some .boolean), Cond.code yX12_goesOn cX12_goesOn 5 (some .boolean), Cond.code yX12_reads cX12_reads 3 none, Cond.code yX12_counts cX12_counts 2 (some .boolean), Cond.code yX12_must_ cX12_must_ 3 none, Cond.code yX12_fresh cX12_fresh 3 (some .long), Cond.code yX12_known cX12_known 2 (some .int)]
set_option maxRecDepth 20000 in
theorem wk_4_in : ∀ w ∈ wk_4_l, w ∈ lw_g := lw_rows [1103, 1127, 1132, 1154, 472, 1038, 1052, 1056, 1159, 1440, 1394, 1386, 1398, 1429, 1409, 1412, 1425, 1406, 1449, 1433, 1453, 1479, 1164, 1573, 1507, 1437, 1550, 1561, 1558, 1542, 1531, 1546, 1538, 1535, 1554, 1527, 1466, 1421, 1475, 1515] rfl (by decide +kernel)
theorem kc_X11_image : Cond.code yX11_image cX11_image 1 (some .int) ∈ lw_g := wk_4_in _ (List.mem_of_getElem? (i := 0) rfl)
theorem kc_X11_octet : Cond.code yX11_octet cX11_octet 2 (some .int) ∈ lw_g := wk_4_in _ (List.mem_of_getElem? (i := 1) rfl)
theorem kc_X11_on : Cond.code yX11_on cX11_on 2 (some .boolean) ∈ lw_g := wk_4_in _ (List.mem_of_getElem? (i := 2) rfl)
theorem kc_X11_status : Cond.code yX11_status cX11_status 2 (some .int) ∈ lw_g := wk_4_in _ (List.mem_of_getElem? (i := 3) rfl)
theorem kc_X11_refuse : Cond.code yX11_refuse cX11_refuse 2 (some .int) ∈ lw_g := wk_4_in _ (List.mem_of_getElem? (i := 4) rfl)
theorem kc_X11_passStep : Cond.code yX11_passStep cX11_passStep 1 (some .int) ∈ lw_g := wk_4_in _ (List.mem_of_getElem? (i := 5) rfl)
theorem kc_X11_letCatCome : Cond.code yX11_letCatCome cX11_letCatCome 1 (some .boolean) ∈ lw_g := wk_4_in _ (List.mem_of_getElem? (i := 6) rfl)
theorem kc_X11_draw : Cond.code yX11_draw cX11_draw 4 (some .int) ∈ lw_g := wk_4_in _ (List.mem_of_getElem? (i := 7) rfl)
theorem kc_X12_init : Cond.code yX12_init cX12_init 2 none ∈ lw_g := wk_4_in _ (List.mem_of_getElem? (i := 8) rfl)
theorem kc_X12_is : Cond.code yX12_is cX12_is 3 (some .boolean) ∈ lw_g := wk_4_in _ (List.mem_of_getElem? (i := 9) rfl)
theorem kc_X12_put : Cond.code yX12_put cX12_put 3 none ∈ lw_g := wk_4_in _ (List.mem_of_getElem? (i := 10) rfl)
theorem kc_X12_feed : Cond.code yX12_feed cX12_feed 6 (some .int) ∈ lw_g := wk_4_in _ (List.mem_of_getElem? (i := 11) rfl)
theorem kc_X12_end : Cond.code yX12_end cX12_end 2 (some .boolean) ∈ lw_g := wk_4_in _ (List.mem_of_getElem? (i := 12) rfl)
theorem kc_X12_blame : Cond.code yX12_blame cX12_blame 3 none ∈ lw_g := wk_4_in _ (List.mem_of_getElem? (i := 13) rfl)
theorem kc_X12_isLetter : Cond.code yX12_isLetter cX12_isLetter 1 (some .boolean) ∈ lw_g := wk_4_in _ (List.mem_of_getElem? (i := 14) rfl)
theorem kc_X12_isDigit : Cond.code yX12_isDigit cX12_isDigit 1 (some .boolean) ∈ lw_g := wk_4_in _ (List.mem_of_getElem? (i := 15) rfl)
theorem kc_X12_lex : Cond.code yX12_lex cX12_lex 1 none ∈ lw_g := wk_4_in _ (List.mem_of_getElem? (i := 16) rfl)
theorem kc_X12_ahead : Cond.code yX12_ahead cX12_ahead 6 none ∈ lw_g := wk_4_in _ (List.mem_of_getElem? (i := 17) rfl)
theorem kc_X12_isSign : Cond.code yX12_isSign cX12_isSign 2 (some .boolean) ∈ lw_g := wk_4_in _ (List.mem_of_getElem? (i := 18) rfl)
theorem kc_X12_isWord : Cond.code yX12_isWord cX12_isWord 3 (some .boolean) ∈ lw_g := wk_4_in _ (List.mem_of_getElem? (i := 19) rfl)
theorem kc_X12_must : Cond.code yX12_must cX12_must 2 none ∈ lw_g := wk_4_in _ (List.mem_of_getElem? (i := 20) rfl)
theorem kc_X12_isOwn : Cond.code yX12_isOwn cX12_isOwn 3 (some .boolean) ∈ lw_g := wk_4_in _ (List.mem_of_getElem? (i := 21) rfl)
theorem kc_X12_isDefault : Cond.code yX12_isDefault cX12_isDefault 2 none ∈ lw_g := wk_4_in _ (List.mem_of_getElem? (i := 22) rfl)
theorem kc_X12_toldOf : Cond.code yX12_toldOf cX12_toldOf 2 (some .int) ∈ lw_g := wk_4_in _ (List.mem_of_getElem? (i := 23) rfl)
theorem kc_X12_named : Cond.code yX12_named cX12_named 4 (some .int) ∈ lw_g := wk_4_in _ (List.mem_of_getElem? (i := 24) rfl)
theorem kc_X12_number : Cond.code yX12_number cX12_number 4 (some .int) ∈ lw_g := wk_4_in _ (List.mem_of_getElem? (i := 25) rfl)
theorem kc_X12_add : Cond.code yX12_add cX12_add 3 none ∈ lw_g := wk_4_in _ (List.mem_of_getElem? (i := 26) rfl)
theorem kc_X12_rank : Cond.code yX12_rank cX12_rank 1 (some .int) ∈ lw_g := wk_4_in _ (List.mem_of_getElem? (i := 27) rfl)
theorem kc_X12_joins : Cond.code yX12_joins cX12_joins 2 none ∈ lw_g := wk_4_in _ (List.mem_of_getElem? (i := 28) rfl)
theorem kc_X12_holdsBack : Cond.code yX12_holdsBack cX12_holdsBack 2 none ∈ lw_g := wk_4_in _ (List.mem_of_getElem? (i := 29) rfl)
theorem kc_X12_pushes : Cond.code yX12_pushes cX12_pushes 2 none ∈ lw_g := wk_4_in _ (List.mem_of_getElem? (i := 30) rfl)
theorem kc_X12_opens : Cond.code yX12_opens cX12_opens 2 none ∈ lw_g := wk_4_in _ (List.mem_of_getElem? (i := 31) rfl)
theorem kc_X12_isTest : Cond.code yX12_isTest cX12_isTest 1 (some .boolean) ∈ lw_g := wk_4_in _ (List.mem_of_getElem? (i := 32) rfl)
theorem kc_X12_operand : Cond.code yX12_operand cX12_operand 4 (some .boolean) ∈ lw_g := wk_4_in _ (List.mem_of_getElem? (i := 33) rfl)
theorem kc_X12_goesOn : Cond.code yX12_goesOn cX12_goesOn 5 (some .boolean) ∈ lw_g := wk_4_in _ (List.mem_of_getElem? (i := 34) rfl)
theorem kc_X12_reads : Cond.code yX12_reads cX12_reads 3 none ∈ lw_g := wk_4_in _ (List.mem_of_getElem? (i := 35) rfl)
theorem kc_X12_counts : Cond.code yX12_counts cX12_counts 2 (some .boolean) ∈ lw_g := wk_4_in _ (List.mem_of_getElem? (i := 36) rfl)
theorem kc_X12_must_ : Cond.code yX12_must_ cX12_must_ 3 none ∈ lw_g := wk_4_in _ (List.mem_of_getElem? (i := 37) rfl)
theorem kc_X12_fresh : Cond.code yX12_fresh cX12_fresh 3 (some .long) ∈ lw_g := wk_4_in _ (List.mem_of_getElem? (i := 38) rfl)
theorem kc_X12_known : Cond.code yX12_known cX12_known 2 (some .int) ∈ lw_g := wk_4_in _ (List.mem_of_getElem? (i := 39) rfl)
def wk_5_l : List Cond := [Cond.code yX12_begins cX12_begins 2 none, Cond.code yX12_greying cX12_greying 4 none, Cond.code yX12_boxing cX12_boxing 6 none, Cond.code yX12_eyeing cX12_eyeing 4 none, Cond.code yX12_biasing cX12_biasing 3 none, Cond.code yX12_reading cX12_reading 3 none, Cond.code yX12_telling cX12_telling 4 none, Cond.code yX12_statement cX12_statement 1 none, Cond.code yX12_finishes cX12_finishes 3 none, Cond.code yX12_kitchen cX12_kitchen 2 (some .int), Cond.code yX12_fault cX12_fault 2 (some .int), Cond.code yX12_refuses cX12_refuses 2 (some .int), Cond.code yX12_status cX12_status 2 (some .int), Cond.code yX12_copies cX12_copies 4 none, Cond.code yX12_begin cX12_begin 2 none, Cond.code yX12_slot cX12_slot 2 (some .int), Cond.code yX12_keeps cX12_keeps 1 none, Cond.code yX12_undo cX12_undo 1 (some .boolean), Cond.code yX12_held cX12_held 2 (some .long), Cond.code yX12_floor cX12_floor 6 (some .long), Cond.code yX12_two cX12_two 5 (some .long), Cond.code yX12_reckons cX12_reckons 5 (some .long), Cond.code yX12_isTold cX12_isTold 2 (some .boolean), Cond.code yX12_isOn cX12_isOn 3 (some .boolean), Cond.code yX12_columnBy cX12_columnBy 1 (some .int), Cond.code yX12_rowBy cX12_rowBy 1 (some .int), Cond.code yX12_off cX12_off 8 (some .int), Cond.code yX12_seen cX12_seen 4 (some .int), Cond.code yX12_isBlack cX12_isBlack 3 (some .boolean), Cond.code yX12_apart cX12_apart 2 (some .int), Cond.code yX12_on cX12_on 2 (some .int), Cond.code yX12_bias cX12_bias 2 (some .int), Cond.code yX12_eye cX12_eye 5 (some .int), Cond.code yX12_who cX12_who 4 (some .int), Cond.code yX12_writesDown cX12_writesDown 4 none, Cond.code yX12_steers cX12_steers 7 none, Cond.code yX12_does cX12_does 5 none, Cond.code yX12_passes cX12_passes 4 none, Cond.code yX12_bits cX12_bits 3 (some .int), Cond.code yX12_isBox cX12_isBox 2 (some .boolean)]
set_option maxRecDepth 20000 in
theorem wk_5_in : ∀ w ∈ wk_5_l, w ∈ lw_g := lw_rows [1416, 1462, 1471, 1511, 1519, 1523, 1565, 1457, 1445, 1402, 1577, 1390, 1581, 1593, 1569, 1589, 1767, 1585, 1690, 1695, 1687, 1684, 1680, 1601, 1653, 1656, 1650, 1609, 1605, 1642, 1646, 1703, 1638, 1626, 1699, 1676, 1672, 1668, 1770, 1617] rfl (by decide +kernel)
theorem kc_X12_begins : Cond.code yX12_begins cX12_begins 2 none ∈ lw_g := wk_5_in _ (List.mem_of_getElem? (i := 0) rfl)
theorem kc_X12_greying : Cond.code yX12_greying cX12_greying 4 none ∈ lw_g := wk_5_in _ (List.mem_of_getElem? (i := 1) rfl)
theorem kc_X12_boxing : Cond.code yX12_boxing cX12_boxing 6 none ∈ lw_g := wk_5_in _ (List.mem_of_getElem? (i := 2) rfl)
theorem kc_X12_eyeing : Cond.code yX12_eyeing cX12_eyeing 4 none ∈ lw_g := wk_5_in _ (List.mem_of_getElem? (i := 3) rfl)
theorem kc_X12_biasing : Cond.code yX12_biasing cX12_biasing 3 none ∈ lw_g := wk_5_in _ (List.mem_of_getElem? (i := 4) rfl)
theorem kc_X12_reading : Cond.code yX12_reading cX12_reading 3 none ∈ lw_g := wk_5_in _ (List.mem_of_getElem? (i := 5) rfl)
theorem kc_X12_telling : Cond.code yX12_telling cX12_telling 4 none ∈ lw_g := wk_5_in _ (List.mem_of_getElem? (i := 6) rfl)
theorem kc_X12_statement : Cond.code yX12_statement cX12_statement 1 none ∈ lw_g := wk_5_in _ (List.mem_of_getElem? (i := 7) rfl)
theorem kc_X12_finishes : Cond.code yX12_finishes cX12_finishes 3 none ∈ lw_g := wk_5_in _ (List.mem_of_getElem? (i := 8) rfl)
theorem kc_X12_kitchen : Cond.code yX12_kitchen cX12_kitchen 2 (some .int) ∈ lw_g := wk_5_in _ (List.mem_of_getElem? (i := 9) rfl)
theorem kc_X12_fault : Cond.code yX12_fault cX12_fault 2 (some .int) ∈ lw_g := wk_5_in _ (List.mem_of_getElem? (i := 10) rfl)
theorem kc_X12_refuses : Cond.code yX12_refuses cX12_refuses 2 (some .int) ∈ lw_g := wk_5_in _ (List.mem_of_getElem? (i := 11) rfl)
theorem kc_X12_status : Cond.code yX12_status cX12_status 2 (some .int) ∈ lw_g := wk_5_in _ (List.mem_of_getElem? (i := 12) rfl)
theorem kc_X12_copies : Cond.code yX12_copies cX12_copies 4 none ∈ lw_g := wk_5_in _ (List.mem_of_getElem? (i := 13) rfl)
theorem kc_X12_begin : Cond.code yX12_begin cX12_begin 2 none ∈ lw_g := wk_5_in _ (List.mem_of_getElem? (i := 14) rfl)
theorem kc_X12_slot : Cond.code yX12_slot cX12_slot 2 (some .int) ∈ lw_g := wk_5_in _ (List.mem_of_getElem? (i := 15) rfl)
theorem kc_X12_keeps : Cond.code yX12_keeps cX12_keeps 1 none ∈ lw_g := wk_5_in _ (List.mem_of_getElem? (i := 16) rfl)
theorem kc_X12_undo : Cond.code yX12_undo cX12_undo 1 (some .boolean) ∈ lw_g := wk_5_in _ (List.mem_of_getElem? (i := 17) rfl)
theorem kc_X12_held : Cond.code yX12_held cX12_held 2 (some .long) ∈ lw_g := wk_5_in _ (List.mem_of_getElem? (i := 18) rfl)
theorem kc_X12_floor : Cond.code yX12_floor cX12_floor 6 (some .long) ∈ lw_g := wk_5_in _ (List.mem_of_getElem? (i := 19) rfl)
theorem kc_X12_two : Cond.code yX12_two cX12_two 5 (some .long) ∈ lw_g := wk_5_in _ (List.mem_of_getElem? (i := 20) rfl)
theorem kc_X12_reckons : Cond.code yX12_reckons cX12_reckons 5 (some .long) ∈ lw_g := wk_5_in _ (List.mem_of_getElem? (i := 21) rfl)
theorem kc_X12_isTold : Cond.code yX12_isTold cX12_isTold 2 (some .boolean) ∈ lw_g := wk_5_in _ (List.mem_of_getElem? (i := 22) rfl)
theorem kc_X12_isOn : Cond.code yX12_isOn cX12_isOn 3 (some .boolean) ∈ lw_g := wk_5_in _ (List.mem_of_getElem? (i := 23) rfl)
theorem kc_X12_columnBy : Cond.code yX12_columnBy cX12_columnBy 1 (some .int) ∈ lw_g := wk_5_in _ (List.mem_of_getElem? (i := 24) rfl)
theorem kc_X12_rowBy : Cond.code yX12_rowBy cX12_rowBy 1 (some .int) ∈ lw_g := wk_5_in _ (List.mem_of_getElem? (i := 25) rfl)
theorem kc_X12_off : Cond.code yX12_off cX12_off 8 (some .int) ∈ lw_g := wk_5_in _ (List.mem_of_getElem? (i := 26) rfl)
theorem kc_X12_seen : Cond.code yX12_seen cX12_seen 4 (some .int) ∈ lw_g := wk_5_in _ (List.mem_of_getElem? (i := 27) rfl)
theorem kc_X12_isBlack : Cond.code yX12_isBlack cX12_isBlack 3 (some .boolean) ∈ lw_g := wk_5_in _ (List.mem_of_getElem? (i := 28) rfl)
theorem kc_X12_apart : Cond.code yX12_apart cX12_apart 2 (some .int) ∈ lw_g := wk_5_in _ (List.mem_of_getElem? (i := 29) rfl)
theorem kc_X12_on : Cond.code yX12_on cX12_on 2 (some .int) ∈ lw_g := wk_5_in _ (List.mem_of_getElem? (i := 30) rfl)
theorem kc_X12_bias : Cond.code yX12_bias cX12_bias 2 (some .int) ∈ lw_g := wk_5_in _ (List.mem_of_getElem? (i := 31) rfl)
theorem kc_X12_eye : Cond.code yX12_eye cX12_eye 5 (some .int) ∈ lw_g := wk_5_in _ (List.mem_of_getElem? (i := 32) rfl)
theorem kc_X12_who : Cond.code yX12_who cX12_who 4 (some .int) ∈ lw_g := wk_5_in _ (List.mem_of_getElem? (i := 33) rfl)
theorem kc_X12_writesDown : Cond.code yX12_writesDown cX12_writesDown 4 none ∈ lw_g := wk_5_in _ (List.mem_of_getElem? (i := 34) rfl)
theorem kc_X12_steers : Cond.code yX12_steers cX12_steers 7 none ∈ lw_g := wk_5_in _ (List.mem_of_getElem? (i := 35) rfl)
theorem kc_X12_does : Cond.code yX12_does cX12_does 5 none ∈ lw_g := wk_5_in _ (List.mem_of_getElem? (i := 36) rfl)
theorem kc_X12_passes : Cond.code yX12_passes cX12_passes 4 none ∈ lw_g := wk_5_in _ (List.mem_of_getElem? (i := 37) rfl)
theorem kc_X12_bits : Cond.code yX12_bits cX12_bits 3 (some .int) ∈ lw_g := wk_5_in _ (List.mem_of_getElem? (i := 38) rfl)
theorem kc_X12_isBox : Cond.code yX12_isBox cX12_isBox 2 (some .boolean) ∈ lw_g := wk_5_in _ (List.mem_of_getElem? (i := 39) rfl)
def wk_6_l : List Cond := [Cond.code yX12_has cX12_has 4 (some .int), Cond.code yX12_letter cX12_letter 8 (some .int), Cond.code yX12_cell cX12_cell 5 (some .int), Cond.code yX12_box cX12_box 3 (some .int), Cond.code yX12_sees cX12_sees 3 (some .int), Cond.code yX12_isAhead cX12_isAhead 4 (some .boolean), Cond.code yX12_later cX12_later 6 (some .int), Cond.code yX12_round cX12_round 3 (some .int), Cond.code yX12_loses cX12_loses 4 (some .int), Cond.code yX12_jam cX12_jam 2 (some .int), Cond.code yX12_away cX12_away 4 (some .int), Cond.code yX12_gap cX12_gap 7 (some .int), Cond.code yX12_tuned cX12_tuned 9 (some .int), Cond.code yX12_moves cX12_moves 4 none, Cond.code yX12_found cX12_found 5 (some .int), Cond.code yX12_spaced cX12_spaced 6 (some .int), Cond.code yX12_bright cX12_bright 5 (some .int), Cond.code yX12_track cX12_track 4 (some .int), Cond.code yX12_walks cX12_walks 4 none, Cond.code yX12_isTrack cX12_isTrack 3 (some .boolean), Cond.code yX12_wheel cX12_wheel 11 (some .int), Cond.code yX12_steps cX12_steps 4 (some .int), Cond.code yX12_draw cX12_draw 2 (some .int), Cond.code yX12_chance cX12_chance 5 (some .int), Cond.code yX12_turn cX12_turn 3 (some .boolean), Cond.code yX12_put_ cX12_put_ 4 (some .boolean), Cond.code yX12_shine cX12_shine 2 (some .boolean), Cond.code yX12_seed cX12_seed 2 (some .boolean), Cond.code yX12_kept cX12_kept 3 (some .int), Cond.code yX12_writes cX12_writes 2 none, Cond.code yX12_writesTwo cX12_writesTwo 2 none, Cond.code yX12_image cX12_image 3 (some .int), Cond.code yX12_octet cX12_octet 2 (some .int), Cond.code yX12_twoBytes cX12_twoBytes 2 (some .int), Cond.code yX12_boxOn cX12_boxOn 5 (some .boolean), Cond.code yX12_comesOn cX12_comesOn 4 (some .boolean), Cond.code yX12_on_ cX12_on_ 2 (some .boolean), Cond.code yJ9_floorDiv_f86c9 cJ9_floorDiv_f86c9 6 (some .long), Cond.code yJ9_floorMod_7cf53 cJ9_floorMod_7cf53 3 (some .int), Cond.code yJ9_floorMod_f86c9 cJ9_floorMod_f86c9 6 (some .long)]
set_option maxRecDepth 20000 in
theorem wk_6_in : ∀ w ∈ wk_6_l, w ∈ lw_g := lw_rows [1597, 1613, 1622, 1630, 1634, 1664, 1660, 1707, 1711, 1715, 1722, 1719, 1726, 1734, 1730, 1738, 1742, 1746, 1754, 1758, 1750, 1763, 1778, 1774, 1786, 1790, 1794, 1798, 1802, 1814, 1810, 1806, 1818, 1830, 1834, 1826, 1822, 850, 1029, 853] rfl (by decide +kernel)
theorem kc_X12_has : Cond.code yX12_has cX12_has 4 (some .int) ∈ lw_g := wk_6_in _ (List.mem_of_getElem? (i := 0) rfl)
theorem kc_X12_letter : Cond.code yX12_letter cX12_letter 8 (some .int) ∈ lw_g := wk_6_in _ (List.mem_of_getElem? (i := 1) rfl)
theorem kc_X12_cell : Cond.code yX12_cell cX12_cell 5 (some .int) ∈ lw_g := wk_6_in _ (List.mem_of_getElem? (i := 2) rfl)
theorem kc_X12_box : Cond.code yX12_box cX12_box 3 (some .int) ∈ lw_g := wk_6_in _ (List.mem_of_getElem? (i := 3) rfl)
theorem kc_X12_sees : Cond.code yX12_sees cX12_sees 3 (some .int) ∈ lw_g := wk_6_in _ (List.mem_of_getElem? (i := 4) rfl)
theorem kc_X12_isAhead : Cond.code yX12_isAhead cX12_isAhead 4 (some .boolean) ∈ lw_g := wk_6_in _ (List.mem_of_getElem? (i := 5) rfl)
theorem kc_X12_later : Cond.code yX12_later cX12_later 6 (some .int) ∈ lw_g := wk_6_in _ (List.mem_of_getElem? (i := 6) rfl)
theorem kc_X12_round : Cond.code yX12_round cX12_round 3 (some .int) ∈ lw_g := wk_6_in _ (List.mem_of_getElem? (i := 7) rfl)
theorem kc_X12_loses : Cond.code yX12_loses cX12_loses 4 (some .int) ∈ lw_g := wk_6_in _ (List.mem_of_getElem? (i := 8) rfl)
theorem kc_X12_jam : Cond.code yX12_jam cX12_jam 2 (some .int) ∈ lw_g := wk_6_in _ (List.mem_of_getElem? (i := 9) rfl)
theorem kc_X12_away : Cond.code yX12_away cX12_away 4 (some .int) ∈ lw_g := wk_6_in _ (List.mem_of_getElem? (i := 10) rfl)
theorem kc_X12_gap : Cond.code yX12_gap cX12_gap 7 (some .int) ∈ lw_g := wk_6_in _ (List.mem_of_getElem? (i := 11) rfl)
theorem kc_X12_tuned : Cond.code yX12_tuned cX12_tuned 9 (some .int) ∈ lw_g := wk_6_in _ (List.mem_of_getElem? (i := 12) rfl)
theorem kc_X12_moves : Cond.code yX12_moves cX12_moves 4 none ∈ lw_g := wk_6_in _ (List.mem_of_getElem? (i := 13) rfl)
theorem kc_X12_found : Cond.code yX12_found cX12_found 5 (some .int) ∈ lw_g := wk_6_in _ (List.mem_of_getElem? (i := 14) rfl)
theorem kc_X12_spaced : Cond.code yX12_spaced cX12_spaced 6 (some .int) ∈ lw_g := wk_6_in _ (List.mem_of_getElem? (i := 15) rfl)
theorem kc_X12_bright : Cond.code yX12_bright cX12_bright 5 (some .int) ∈ lw_g := wk_6_in _ (List.mem_of_getElem? (i := 16) rfl)
theorem kc_X12_track : Cond.code yX12_track cX12_track 4 (some .int) ∈ lw_g := wk_6_in _ (List.mem_of_getElem? (i := 17) rfl)
theorem kc_X12_walks : Cond.code yX12_walks cX12_walks 4 none ∈ lw_g := wk_6_in _ (List.mem_of_getElem? (i := 18) rfl)
theorem kc_X12_isTrack : Cond.code yX12_isTrack cX12_isTrack 3 (some .boolean) ∈ lw_g := wk_6_in _ (List.mem_of_getElem? (i := 19) rfl)
theorem kc_X12_wheel : Cond.code yX12_wheel cX12_wheel 11 (some .int) ∈ lw_g := wk_6_in _ (List.mem_of_getElem? (i := 20) rfl)
theorem kc_X12_steps : Cond.code yX12_steps cX12_steps 4 (some .int) ∈ lw_g := wk_6_in _ (List.mem_of_getElem? (i := 21) rfl)
theorem kc_X12_draw : Cond.code yX12_draw cX12_draw 2 (some .int) ∈ lw_g := wk_6_in _ (List.mem_of_getElem? (i := 22) rfl)
theorem kc_X12_chance : Cond.code yX12_chance cX12_chance 5 (some .int) ∈ lw_g := wk_6_in _ (List.mem_of_getElem? (i := 23) rfl)
theorem kc_X12_turn : Cond.code yX12_turn cX12_turn 3 (some .boolean) ∈ lw_g := wk_6_in _ (List.mem_of_getElem? (i := 24) rfl)
theorem kc_X12_put_ : Cond.code yX12_put_ cX12_put_ 4 (some .boolean) ∈ lw_g := wk_6_in _ (List.mem_of_getElem? (i := 25) rfl)
theorem kc_X12_shine : Cond.code yX12_shine cX12_shine 2 (some .boolean) ∈ lw_g := wk_6_in _ (List.mem_of_getElem? (i := 26) rfl)
theorem kc_X12_seed : Cond.code yX12_seed cX12_seed 2 (some .boolean) ∈ lw_g := wk_6_in _ (List.mem_of_getElem? (i := 27) rfl)
theorem kc_X12_kept : Cond.code yX12_kept cX12_kept 3 (some .int) ∈ lw_g := wk_6_in _ (List.mem_of_getElem? (i := 28) rfl)
theorem kc_X12_writes : Cond.code yX12_writes cX12_writes 2 none ∈ lw_g := wk_6_in _ (List.mem_of_getElem? (i := 29) rfl)
theorem kc_X12_writesTwo : Cond.code yX12_writesTwo cX12_writesTwo 2 none ∈ lw_g := wk_6_in _ (List.mem_of_getElem? (i := 30) rfl)
theorem kc_X12_image : Cond.code yX12_image cX12_image 3 (some .int) ∈ lw_g := wk_6_in _ (List.mem_of_getElem? (i := 31) rfl)
theorem kc_X12_octet : Cond.code yX12_octet cX12_octet 2 (some .int) ∈ lw_g := wk_6_in _ (List.mem_of_getElem? (i := 32) rfl)
theorem kc_X12_twoBytes : Cond.code yX12_twoBytes cX12_twoBytes 2 (some .int) ∈ lw_g := wk_6_in _ (List.mem_of_getElem? (i := 33) rfl)
theorem kc_X12_boxOn : Cond.code yX12_boxOn cX12_boxOn 5 (some .boolean) ∈ lw_g := wk_6_in _ (List.mem_of_getElem? (i := 34) rfl)
theorem kc_X12_comesOn : Cond.code yX12_comesOn cX12_comesOn 4 (some .boolean) ∈ lw_g := wk_6_in _ (List.mem_of_getElem? (i := 35) rfl)
theorem kc_X12_on_ : Cond.code yX12_on_ cX12_on_ 2 (some .boolean) ∈ lw_g := wk_6_in _ (List.mem_of_getElem? (i := 36) rfl)
theorem kc_J9_floorDiv_f86c9 : Cond.code yJ9_floorDiv_f86c9 cJ9_floorDiv_f86c9 6 (some .long) ∈ lw_g := wk_6_in _ (List.mem_of_getElem? (i := 37) rfl)
theorem kc_J9_floorMod_7cf53 : Cond.code yJ9_floorMod_7cf53 cJ9_floorMod_7cf53 3 (some .int) ∈ lw_g := wk_6_in _ (List.mem_of_getElem? (i := 38) rfl)
theorem kc_J9_floorMod_f86c9 : Cond.code yJ9_floorMod_f86c9 cJ9_floorMod_f86c9 6 (some .long) ∈ lw_g := wk_6_in _ (List.mem_of_getElem? (i := 39) rfl)
def wk_7_l : List Cond := [Cond.code yJ9_abs_0f7a4 cJ9_abs_0f7a4 1 (some .int), Cond.code yJ9_max_7cf53 cJ9_max_7cf53 2 (some .int), Cond.code yJ9_max_f86c9 cJ9_max_f86c9 4 (some .long), Cond.code yJ9_min_7cf53 cJ9_min_7cf53 2 (some .int), Cond.code yJ9_min_f86c9 cJ9_min_f86c9 4 (some .long), Cond.code yJ7_fill_53178 cJ7_fill_53178 4 none]
set_option maxRecDepth 20000 in
theorem wk_7_in : ∀ w ∈ wk_7_l, w ∈ lw_g := lw_rows [917, 804, 859, 764, 856, 59] rfl (by decide +kernel)
theorem kc_J9_abs_0f7a4 : Cond.code yJ9_abs_0f7a4 cJ9_abs_0f7a4 1 (some .int) ∈ lw_g := wk_7_in _ (List.mem_of_getElem? (i := 0) rfl)
theorem kc_J9_max_7cf53 : Cond.code yJ9_max_7cf53 cJ9_max_7cf53 2 (some .int) ∈ lw_g := wk_7_in _ (List.mem_of_getElem? (i := 1) rfl)
theorem kc_J9_max_f86c9 : Cond.code yJ9_max_f86c9 cJ9_max_f86c9 4 (some .long) ∈ lw_g := wk_7_in _ (List.mem_of_getElem? (i := 2) rfl)
theorem kc_J9_min_7cf53 : Cond.code yJ9_min_7cf53 cJ9_min_7cf53 2 (some .int) ∈ lw_g := wk_7_in _ (List.mem_of_getElem? (i := 3) rfl)
theorem kc_J9_min_f86c9 : Cond.code yJ9_min_f86c9 cJ9_min_f86c9 4 (some .long) ∈ lw_g := wk_7_in _ (List.mem_of_getElem? (i := 4) rfl)
theorem kc_J7_fill_53178 : Cond.code yJ7_fill_53178 cJ7_fill_53178 4 none ∈ lw_g := wk_7_in _ (List.mem_of_getElem? (i := 5) rfl)
theorem km_X0_init : mKm yX0_init cX0_init 2 none 1 := ⟨kc_X0_init, ii_X0, cn_X0.1, cn_X0.2.1, pd_0, plainFor_of_name cn_X0.2.2⟩
theorem km_X0_stateBehind : mKm yX0_stateBehind cX0_stateBehind 6 (some .int) 4 := ⟨kc_X0_stateBehind, ii_X0, cn_X0.1, cn_X0.2.1, pd_1, plainFor_of_name cn_X0.2.2⟩
theorem kv_X0_stateBehind : mKv yX0_stateBehind := ⟨kn_X0_stateBehind, kz_X0_stateBehind⟩
theorem km_X0_stepsRound : mKm yX0_stepsRound cX0_stepsRound 5 (some .int) 2 := ⟨kc_X0_stepsRound, ii_X0, cn_X0.1, cn_X0.2.1, pd_2, plainFor_of_name cn_X0.2.2⟩
theorem kv_X0_stepsRound : mKv yX0_stepsRound := ⟨kn_X0_stepsRound, kz_X0_stepsRound⟩
theorem km_X0_isAsIn : mKm yX0_isAsIn cX0_isAsIn 3 (some .boolean) 2 := ⟨kc_X0_isAsIn, ii_X0, cn_X0.1, cn_X0.2.1, pd_3, plainFor_of_name cn_X0.2.2⟩
theorem kv_X0_isAsIn : mKv yX0_isAsIn := ⟨kn_X0_isAsIn, lw_sl (q := (yX0_isAsIn, 4)) 30 rfl⟩
theorem km_X0_stepsToLoss : mKm yX0_stepsToLoss cX0_stepsToLoss 6 (some .int) 3 := ⟨kc_X0_stepsToLoss, ii_X0, cn_X0.1, cn_X0.2.1, pd_4, plainFor_of_name cn_X0.2.2⟩
theorem kv_X0_stepsToLoss : mKv yX0_stepsToLoss := ⟨kn_X0_stepsToLoss, kz_X0_stepsToLoss⟩
theorem km_X0_firstJam : mKm yX0_firstJam cX0_firstJam 4 (some .int) 1 := ⟨kc_X0_firstJam, ii_X0, cn_X0.1, cn_X0.2.1, pd_5, plainFor_of_name cn_X0.2.2⟩
theorem kv_X0_firstJam : mKv yX0_firstJam := ⟨kn_X0_firstJam, kz_X0_firstJam⟩
theorem km_X0_nearest : mKm yX0_nearest cX0_nearest 7 (some .int) 4 := ⟨kc_X0_nearest, ii_X0, cn_X0.1, cn_X0.2.1, pd_1, plainFor_of_name cn_X0.2.2⟩
theorem kv_X0_nearest : mKv yX0_nearest := ⟨kn_X0_nearest, kz_X0_nearest⟩
theorem km_X0_distance : mKm yX0_distance cX0_distance 3 (some .int) 2 := ⟨kc_X0_distance, ii_X0, cn_X0.1, cn_X0.2.1, pd_6, plainFor_of_name cn_X0.2.2⟩
theorem kv_X0_distance : mKv yX0_distance := ⟨kn_X0_distance, lw_sl (q := (yX0_distance, 4)) 31 rfl⟩
theorem km_X0_bestEyes : mKm yX0_bestEyes cX0_bestEyes 11 (some .int) 4 := ⟨kc_X0_bestEyes, ii_X0, cn_X0.1, cn_X0.2.1, pd_1, plainFor_of_name cn_X0.2.2⟩
theorem kv_X0_bestEyes : mKv yX0_bestEyes := ⟨kn_X0_bestEyes, kz_X0_bestEyes⟩
theorem km_X0_blackSteps : mKm yX0_blackSteps cX0_blackSteps 5 (some .int) 2 := ⟨kc_X0_blackSteps, ii_X0, cn_X0.1, cn_X0.2.1, pd_6, plainFor_of_name cn_X0.2.2⟩
theorem kv_X0_blackSteps : mKv yX0_blackSteps := ⟨kn_X0_blackSteps, lw_sl (q := (yX0_blackSteps, 4)) 32 rfl⟩
theorem km_X0_fewestMoves : mKm yX0_fewestMoves cX0_fewestMoves 12 (some .int) 2 := ⟨kc_X0_fewestMoves, ii_X0, cn_X0.1, cn_X0.2.1, pd_2, plainFor_of_name cn_X0.2.2⟩
theorem kv_X0_fewestMoves : mKv yX0_fewestMoves := ⟨kn_X0_fewestMoves, kz_X0_fewestMoves⟩
theorem km_X0_reach : mKm yX0_reach cX0_reach 6 none 4 := ⟨kc_X0_reach, ii_X0, cn_X0.1, cn_X0.2.1, pd_7, plainFor_of_name cn_X0.2.2⟩
theorem kv_X0_reach : mKv yX0_reach := ⟨kn_X0_reach, lw_sl (q := (yX0_reach, 4)) 33 rfl⟩
theorem km_X0_leastDelay : mKm yX0_leastDelay cX0_leastDelay 6 (some .int) 2 := ⟨kc_X0_leastDelay, ii_X0, cn_X0.1, cn_X0.2.1, pd_2, plainFor_of_name cn_X0.2.2⟩
theorem kv_X0_leastDelay : mKv yX0_leastDelay := ⟨kn_X0_leastDelay, kz_X0_leastDelay⟩
theorem km_X0_brightestLamp : mKm yX0_brightestLamp cX0_brightestLamp 5 (some .int) 2 := ⟨kc_X0_brightestLamp, ii_X0, cn_X0.1, cn_X0.2.1, pd_2, plainFor_of_name cn_X0.2.2⟩
theorem kv_X0_brightestLamp : mKv yX0_brightestLamp := ⟨kn_X0_brightestLamp, kz_X0_brightestLamp⟩
theorem km_X1_init : mKm yX1_init cX1_init 3 none 2 := ⟨kc_X1_init, ii_X1, cn_X1.1, cn_X1.2.1, pd_8, plainFor_of_name cn_X1.2.2⟩
theorem km_X1_readSteers : mKm yX1_readSteers cX1_readSteers 2 none 1 := ⟨kc_X1_readSteers, ii_X1, cn_X1.1, cn_X1.2.1, pd_0, plainFor_of_name cn_X1.2.2⟩
theorem kv_X1_readSteers : mKv yX1_readSteers := ⟨kn_X1_readSteers, kz_X1_readSteers⟩
theorem km_X1_readGoes : mKm yX1_readGoes cX1_readGoes 2 none 1 := ⟨kc_X1_readGoes, ii_X1, cn_X1.1, cn_X1.2.1, pd_0, plainFor_of_name cn_X1.2.2⟩
theorem kv_X1_readGoes : mKv yX1_readGoes := ⟨kn_X1_readGoes, kz_X1_readGoes⟩
theorem km_X1_test : mKm yX1_test cX1_test 3 none 1 := ⟨kc_X1_test, ii_X1, cn_X1.1, cn_X1.2.1, pd_9, plainFor_of_name cn_X1.2.2⟩
theorem kv_X1_test : mKv yX1_test := ⟨kn_X1_test, lw_sl (q := (yX1_test, 3)) 21 rfl⟩
theorem km_X1_both : mKm yX1_both cX1_both 3 none 1 := ⟨kc_X1_both, ii_X1, cn_X1.1, cn_X1.2.1, pd_9, plainFor_of_name cn_X1.2.2⟩
theorem kv_X1_both : mKv yX1_both := ⟨kn_X1_both, lw_sl (q := (yX1_both, 3)) 22 rfl⟩
theorem km_X1_fact : mKm yX1_fact cX1_fact 2 none 1 := ⟨kc_X1_fact, ii_X1, cn_X1.1, cn_X1.2.1, pd_9, plainFor_of_name cn_X1.2.2⟩
theorem kv_X1_fact : mKv yX1_fact := ⟨kn_X1_fact, lw_sl (q := (yX1_fact, 3)) 23 rfl⟩
theorem km_X1_comparison : mKm yX1_comparison cX1_comparison 3 none 1 := ⟨kc_X1_comparison, ii_X1, cn_X1.1, cn_X1.2.1, pd_9, plainFor_of_name cn_X1.2.2⟩
theorem kv_X1_comparison : mKv yX1_comparison := ⟨kn_X1_comparison, lw_sl (q := (yX1_comparison, 3)) 24 rfl⟩
theorem km_X1_sum : mKm yX1_sum cX1_sum 4 none 1 := ⟨kc_X1_sum, ii_X1, cn_X1.1, cn_X1.2.1, pd_9, plainFor_of_name cn_X1.2.2⟩
theorem kv_X1_sum : mKv yX1_sum := ⟨kn_X1_sum, lw_sl (q := (yX1_sum, 3)) 16 rfl⟩
theorem km_X1_product : mKm yX1_product cX1_product 4 none 1 := ⟨kc_X1_product, ii_X1, cn_X1.1, cn_X1.2.1, pd_9, plainFor_of_name cn_X1.2.2⟩
theorem kv_X1_product : mKv yX1_product := ⟨kn_X1_product, lw_sl (q := (yX1_product, 3)) 17 rfl⟩
theorem km_X1_productSign : mKm yX1_productSign cX1_productSign 1 (some .int) 0 := ⟨kc_X1_productSign, ii_X1, cn_X1.1, cn_X1.2.1, pd_10, plainFor_of_name cn_X1.2.2⟩
theorem kv_X1_productSign : mKv yX1_productSign := ⟨kn_X1_productSign, lw_sl (q := (yX1_productSign, 3)) 26 rfl⟩
theorem km_X1_part : mKm yX1_part cX1_part 2 none 1 := ⟨kc_X1_part, ii_X1, cn_X1.1, cn_X1.2.1, pd_9, plainFor_of_name cn_X1.2.2⟩
theorem kv_X1_part : mKv yX1_part := ⟨kn_X1_part, lw_sl (q := (yX1_part, 3)) 18 rfl⟩
theorem km_X1_choice : mKm yX1_choice cX1_choice 3 none 2 := ⟨kc_X1_choice, ii_X1, cn_X1.1, cn_X1.2.1, pd_11, plainFor_of_name cn_X1.2.2⟩
theorem kv_X1_choice : mKv yX1_choice := ⟨kn_X1_choice, lw_sl (q := (yX1_choice, 3)) 20 rfl⟩
theorem km_X1_known : mKm yX1_known cX1_known 3 none 0 := ⟨kc_X1_known, ii_X1, cn_X1.1, cn_X1.2.1, pd_12, plainFor_of_name cn_X1.2.2⟩
theorem kv_X1_known : mKv yX1_known := ⟨kn_X1_known, lw_sl (q := (yX1_known, 3)) 25 rfl⟩
theorem km_X1_knownOf : mKm yX1_knownOf cX1_knownOf 1 (some .int) 1 := ⟨kc_X1_knownOf, ii_X1, cn_X1.1, cn_X1.2.1, pd_13, plainFor_of_name cn_X1.2.2⟩
theorem km_X1_passOpening : mKm yX1_passOpening cX1_passOpening 2 (some .boolean) 1 := ⟨kc_X1_passOpening, ii_X1, cn_X1.1, cn_X1.2.1, pd_14, plainFor_of_name cn_X1.2.2⟩
theorem kv_X1_passOpening : mKv yX1_passOpening := ⟨kn_X1_passOpening, lw_sl (q := (yX1_passOpening, 3)) 19 rfl⟩
theorem km_X2_init : mKm yX2_init cX2_init 1 none 0 := ⟨kc_X2_init, ii_X2, cn_X2.1, cn_X2.2.1, pd_12, plainFor_of_name cn_X2.2.2⟩
theorem km_X2_valueOf : mKm yX2_valueOf cX2_valueOf 12 (some .int) 3 := ⟨kc_X2_valueOf, ii_X2, cn_X2.1, cn_X2.2.1, pd_15, plainFor_of_name cn_X2.2.2⟩
theorem kv_X2_valueOf : mKv yX2_valueOf := ⟨kn_X2_valueOf, kz_X2_valueOf⟩
theorem km_X2_needsOf : mKm yX2_needsOf cX2_needsOf 1 (some .int) 1 := ⟨kc_X2_needsOf, ii_X2, cn_X2.1, cn_X2.2.1, pd_13, plainFor_of_name cn_X2.2.2⟩
theorem km_X2_joined : mKm yX2_joined cX2_joined 5 (some .long) 3 := ⟨kc_X2_joined, ii_X2, cn_X2.1, cn_X2.2.1, pd_16, plainFor_of_name cn_X2.2.2⟩
theorem km_X3_init : mKm yX3_init cX3_init 1 none 0 := ⟨kc_X3_init, ii_X3, cn_X3.1, cn_X3.2.1, pd_12, plainFor_of_name cn_X3.2.2⟩
theorem km_X3_forget : mKm yX3_forget cX3_forget 1 none 0 := ⟨kc_X3_forget, ii_X3, cn_X3.1, cn_X3.2.1, pd_12, plainFor_of_name cn_X3.2.2⟩
theorem kv_X3_forget : mKv yX3_forget := ⟨kn_X3_forget, kz_X3_forget⟩
theorem km_X3_told : mKm yX3_told cX3_told 1 (some .int) 0 := ⟨kc_X3_told, ii_X3, cn_X3.1, cn_X3.2.1, pd_10, plainFor_of_name cn_X3.2.2⟩
theorem kv_X3_told : mKv yX3_told := ⟨kn_X3_told, kz_X3_told⟩
theorem km_X3_remember : mKm yX3_remember cX3_remember 3 none 1 := ⟨kc_X3_remember, ii_X3, cn_X3.1, cn_X3.2.1, pd_17, plainFor_of_name cn_X3.2.2⟩
theorem kv_X3_remember : mKv yX3_remember := ⟨kn_X3_remember, kz_X3_remember⟩
theorem km_X3_restore : mKm yX3_restore cX3_restore 3 none 1 := ⟨kc_X3_restore, ii_X3, cn_X3.1, cn_X3.2.1, pd_17, plainFor_of_name cn_X3.2.2⟩
theorem kv_X3_restore : mKv yX3_restore := ⟨kn_X3_restore, kz_X3_restore⟩
theorem km_X3_keepStep : mKm yX3_keepStep cX3_keepStep 5 none 1 := ⟨kc_X3_keepStep, ii_X3, cn_X3.1, cn_X3.2.1, pd_17, plainFor_of_name cn_X3.2.2⟩
theorem kv_X3_keepStep : mKv yX3_keepStep := ⟨kn_X3_keepStep, kz_X3_keepStep⟩
theorem km_X3_keptPart : mKm yX3_keptPart cX3_keptPart 4 (some .int) 2 := ⟨kc_X3_keptPart, ii_X3, cn_X3.1, cn_X3.2.1, pd_6, plainFor_of_name cn_X3.2.2⟩
theorem kv_X3_keptPart : mKv yX3_keptPart := ⟨kn_X3_keptPart, kz_X3_keptPart⟩
theorem km_X4_init : mKm yX4_init cX4_init 2 none 1 := ⟨kc_X4_init, ii_X4, cn_X4.1, cn_X4.2.1, pd_0, plainFor_of_name cn_X4.2.2⟩
theorem km_X4_byteAt : mKm yX4_byteAt cX4_byteAt 2 (some .int) 1 := ⟨kc_X4_byteAt, ii_X4, cn_X4.1, cn_X4.2.1, pd_13, plainFor_of_name cn_X4.2.2⟩
theorem kv_X4_byteAt : mKv yX4_byteAt := ⟨kn_X4_byteAt, kz_X4_byteAt⟩
theorem km_X4_write : mKm yX4_write cX4_write 4 (some .int) 1 := ⟨kc_X4_write, ii_X4, cn_X4.1, cn_X4.2.1, pd_5, plainFor_of_name cn_X4.2.2⟩
theorem kv_X4_write : mKv yX4_write := ⟨kn_X4_write, kz_X4_write⟩
theorem km_X4_readInto : mKm yX4_readInto cX4_readInto 7 (some .boolean) 2 := ⟨kc_X4_readInto, ii_X4, cn_X4.1, cn_X4.2.1, pd_18, plainFor_of_name cn_X4.2.2⟩
theorem kv_X4_readInto : mKv yX4_readInto := ⟨kn_X4_readInto, kz_X4_readInto⟩
theorem km_X4_readBox : mKm yX4_readBox cX4_readBox 6 (some .boolean) 2 := ⟨kc_X4_readBox, ii_X4, cn_X4.1, cn_X4.2.1, pd_19, plainFor_of_name cn_X4.2.2⟩
theorem kv_X4_readBox : mKv yX4_readBox := ⟨kn_X4_readBox, lw_sl (q := (yX4_readBox, 3)) 44 rfl⟩
theorem km_X4_checkedBy : mKm yX4_checkedBy cX4_checkedBy 2 (some .int) 2 := ⟨kc_X4_checkedBy, ii_X4, cn_X4.1, cn_X4.2.1, pd_6, plainFor_of_name cn_X4.2.2⟩
theorem km_X4_addPair : mKm yX4_addPair cX4_addPair 2 none 1 := ⟨kc_X4_addPair, ii_X4, cn_X4.1, cn_X4.2.1, pd_9, plainFor_of_name cn_X4.2.2⟩
theorem kv_X4_addPair : mKv yX4_addPair := ⟨kn_X4_addPair, lw_sl (q := (yX4_addPair, 3)) 42 rfl⟩
theorem km_X4_add : mKm yX4_add cX4_add 2 none 1 := ⟨kc_X4_add, ii_X4, cn_X4.1, cn_X4.2.1, pd_9, plainFor_of_name cn_X4.2.2⟩
theorem kv_X4_add : mKv yX4_add := ⟨kn_X4_add, lw_sl (q := (yX4_add, 3)) 43 rfl⟩
theorem km_X5_init : mKm yX5_init cX5_init 1 none 0 := ⟨kc_X5_init, ii_X5, cn_X5.1, cn_X5.2.1, pd_12, plainFor_of_name cn_X5.2.2⟩
theorem km_X5_clear : mKm yX5_clear cX5_clear 1 none 0 := ⟨kc_X5_clear, ii_X5, cn_X5.1, cn_X5.2.1, pd_12, plainFor_of_name cn_X5.2.2⟩
theorem kv_X5_clear : mKv yX5_clear := ⟨kn_X5_clear, kz_X5_clear⟩
theorem km_X5_shiftOf : mKm yX5_shiftOf cX5_shiftOf 1 (some .int) 1 := ⟨kc_X5_shiftOf, ii_X5, cn_X5.1, cn_X5.2.1, pd_13, plainFor_of_name cn_X5.2.2⟩
theorem km_X5_hasSteers : mKm yX5_hasSteers cX5_hasSteers 1 (some .boolean) 0 := ⟨kc_X5_hasSteers, ii_X5, cn_X5.1, cn_X5.2.1, pd_20, plainFor_of_name cn_X5.2.2⟩
theorem kv_X5_hasSteers : mKv yX5_hasSteers := ⟨kn_X5_hasSteers, kz_X5_hasSteers⟩
theorem km_X5_hasGoes : mKm yX5_hasGoes cX5_hasGoes 1 (some .boolean) 0 := ⟨kc_X5_hasGoes, ii_X5, cn_X5.1, cn_X5.2.1, pd_20, plainFor_of_name cn_X5.2.2⟩
theorem kv_X5_hasGoes : mKv yX5_hasGoes := ⟨kn_X5_hasGoes, kz_X5_hasGoes⟩
theorem km_X5_hasBox : mKm yX5_hasBox cX5_hasBox 2 (some .boolean) 1 := ⟨kc_X5_hasBox, ii_X5, cn_X5.1, cn_X5.2.1, pd_14, plainFor_of_name cn_X5.2.2⟩
theorem kv_X5_hasBox : mKv yX5_hasBox := ⟨kn_X5_hasBox, kz_X5_hasBox⟩
theorem km_X5_hasCell : mKm yX5_hasCell cX5_hasCell 3 (some .boolean) 2 := ⟨kc_X5_hasCell, ii_X5, cn_X5.1, cn_X5.2.1, pd_21, plainFor_of_name cn_X5.2.2⟩
theorem kv_X5_hasCell : mKv yX5_hasCell := ⟨kn_X5_hasCell, kz_X5_hasCell⟩
theorem km_X5_greyAt : mKm yX5_greyAt cX5_greyAt 4 (some .int) 2 := ⟨kc_X5_greyAt, ii_X5, cn_X5.1, cn_X5.2.1, pd_6, plainFor_of_name cn_X5.2.2⟩
theorem kv_X5_greyAt : mKv yX5_greyAt := ⟨kn_X5_greyAt, kz_X5_greyAt⟩
theorem km_X5_setGrey : mKm yX5_setGrey cX5_setGrey 5 none 3 := ⟨kc_X5_setGrey, ii_X5, cn_X5.1, cn_X5.2.1, pd_22, plainFor_of_name cn_X5.2.2⟩
theorem kv_X5_setGrey : mKv yX5_setGrey := ⟨kn_X5_setGrey, kz_X5_setGrey⟩
theorem km_X5_boxNamed : mKm yX5_boxNamed cX5_boxNamed 3 (some .int) 1 := ⟨kc_X5_boxNamed, ii_X5, cn_X5.1, cn_X5.2.1, pd_13, plainFor_of_name cn_X5.2.2⟩
theorem kv_X5_boxNamed : mKv yX5_boxNamed := ⟨kn_X5_boxNamed, kz_X5_boxNamed⟩
theorem km_X5_boxStartingOn : mKm yX5_boxStartingOn cX5_boxStartingOn 3 (some .int) 2 := ⟨kc_X5_boxStartingOn, ii_X5, cn_X5.1, cn_X5.2.1, pd_6, plainFor_of_name cn_X5.2.2⟩
theorem kv_X5_boxStartingOn : mKv yX5_boxStartingOn := ⟨kn_X5_boxStartingOn, kz_X5_boxStartingOn⟩
theorem km_X5_addBox : mKm yX5_addBox cX5_addBox 5 none 4 := ⟨kc_X5_addBox, ii_X5, cn_X5.1, cn_X5.2.1, pd_7, plainFor_of_name cn_X5.2.2⟩
theorem kv_X5_addBox : mKv yX5_addBox := ⟨kn_X5_addBox, kz_X5_addBox⟩
theorem km_X5_setStart : mKm yX5_setStart cX5_setStart 5 none 3 := ⟨kc_X5_setStart, ii_X5, cn_X5.1, cn_X5.2.1, pd_22, plainFor_of_name cn_X5.2.2⟩
theorem kv_X5_setStart : mKv yX5_setStart := ⟨kn_X5_setStart, kz_X5_setStart⟩
theorem km_X5_emit : mKm yX5_emit cX5_emit 3 none 2 := ⟨kc_X5_emit, ii_X5, cn_X5.1, cn_X5.2.1, pd_11, plainFor_of_name cn_X5.2.2⟩
theorem kv_X5_emit : mKv yX5_emit := ⟨kn_X5_emit, kz_X5_emit⟩
theorem km_X6_init : mKm yX6_init cX6_init 3 none 2 := ⟨kc_X6_init, ii_X6, cn_X6.1, cn_X6.2.1, pd_23, plainFor_of_name cn_X6.2.2⟩
theorem km_X6_readInto : mKm yX6_readInto cX6_readInto 3 (some .int) 1 := ⟨kc_X6_readInto, ii_X6, cn_X6.1, cn_X6.2.1, pd_24, plainFor_of_name cn_X6.2.2⟩
theorem kv_X6_readInto : mKv yX6_readInto := ⟨kn_X6_readInto, kz_X6_readInto⟩
theorem km_X6_readStatement : mKm yX6_readStatement cX6_readStatement 3 none 1 := ⟨kc_X6_readStatement, ii_X6, cn_X6.1, cn_X6.2.1, pd_25, plainFor_of_name cn_X6.2.2⟩
theorem kv_X6_readStatement : mKv yX6_readStatement := ⟨kn_X6_readStatement, lw_sl (q := (yX6_readStatement, 3)) 7 rfl⟩
theorem km_X6_refuseOneTooMany : mKm yX6_refuseOneTooMany cX6_refuseOneTooMany 5 none 1 := ⟨kc_X6_refuseOneTooMany, ii_X6, cn_X6.1, cn_X6.2.1, pd_9, plainFor_of_name cn_X6.2.2⟩
theorem kv_X6_refuseOneTooMany : mKv yX6_refuseOneTooMany := ⟨kn_X6_refuseOneTooMany, lw_sl (q := (yX6_refuseOneTooMany, 3)) 8 rfl⟩
theorem km_X6_readFloor : mKm yX6_readFloor cX6_readFloor 1 none 0 := ⟨kc_X6_readFloor, ii_X6, cn_X6.1, cn_X6.2.1, pd_12, plainFor_of_name cn_X6.2.2⟩
theorem kv_X6_readFloor : mKv yX6_readFloor := ⟨kn_X6_readFloor, lw_sl (q := (yX6_readFloor, 3)) 9 rfl⟩
theorem km_X6_readGrey : mKm yX6_readGrey cX6_readGrey 3 none 0 := ⟨kc_X6_readGrey, ii_X6, cn_X6.1, cn_X6.2.1, pd_12, plainFor_of_name cn_X6.2.2⟩
theorem kv_X6_readGrey : mKv yX6_readGrey := ⟨kn_X6_readGrey, lw_sl (q := (yX6_readGrey, 3)) 10 rfl⟩
theorem km_X6_readBox : mKm yX6_readBox cX6_readBox 4 none 0 := ⟨kc_X6_readBox, ii_X6, cn_X6.1, cn_X6.2.1, pd_12, plainFor_of_name cn_X6.2.2⟩
theorem kv_X6_readBox : mKv yX6_readBox := ⟨kn_X6_readBox, lw_sl (q := (yX6_readBox, 3)) 11 rfl⟩
theorem km_X6_readEyes : mKm yX6_readEyes cX6_readEyes 2 none 0 := ⟨kc_X6_readEyes, ii_X6, cn_X6.1, cn_X6.2.1, pd_12, plainFor_of_name cn_X6.2.2⟩
theorem kv_X6_readEyes : mKv yX6_readEyes := ⟨kn_X6_readEyes, lw_sl (q := (yX6_readEyes, 3)) 13 rfl⟩
theorem km_X6_readBias : mKm yX6_readBias cX6_readBias 2 none 0 := ⟨kc_X6_readBias, ii_X6, cn_X6.1, cn_X6.2.1, pd_12, plainFor_of_name cn_X6.2.2⟩
theorem kv_X6_readBias : mKv yX6_readBias := ⟨kn_X6_readBias, lw_sl (q := (yX6_readBias, 3)) 15 rfl⟩
theorem km_X6_readSetting : mKm yX6_readSetting cX6_readSetting 2 none 1 := ⟨kc_X6_readSetting, ii_X6, cn_X6.1, cn_X6.2.1, pd_9, plainFor_of_name cn_X6.2.2⟩
theorem kv_X6_readSetting : mKv yX6_readSetting := ⟨kn_X6_readSetting, lw_sl (q := (yX6_readSetting, 3)) 27 rfl⟩
theorem km_X6_takeNewName : mKm yX6_takeNewName cX6_takeNewName 2 (some .int) 0 := ⟨kc_X6_takeNewName, ii_X6, cn_X6.1, cn_X6.2.1, pd_10, plainFor_of_name cn_X6.2.2⟩
theorem kv_X6_takeNewName : mKv yX6_takeNewName := ⟨kn_X6_takeNewName, lw_sl (q := (yX6_takeNewName, 3)) 12 rfl⟩
theorem km_X6_takeBoxName : mKm yX6_takeBoxName cX6_takeBoxName 2 (some .int) 0 := ⟨kc_X6_takeBoxName, ii_X6, cn_X6.1, cn_X6.2.1, pd_10, plainFor_of_name cn_X6.2.2⟩
theorem kv_X6_takeBoxName : mKv yX6_takeBoxName := ⟨kn_X6_takeBoxName, lw_sl (q := (yX6_takeBoxName, 3)) 14 rfl⟩
theorem km_X7_init : mKm yX7_init cX7_init 1 none 0 := ⟨kc_X7_init, ii_X7, cn_X7.1, cn_X7.2.1, pd_12, plainFor_of_name cn_X7.2.2⟩
theorem km_X7_hasSpaceFor : mKm yX7_hasSpaceFor cX7_hasSpaceFor 2 (some .boolean) 1 := ⟨kc_X7_hasSpaceFor, ii_X7, cn_X7.1, cn_X7.2.1, pd_14, plainFor_of_name cn_X7.2.2⟩
theorem kv_X7_hasSpaceFor : mKv yX7_hasSpaceFor := ⟨kn_X7_hasSpaceFor, kz_X7_hasSpaceFor⟩
theorem km_X7_add : mKm yX7_add cX7_add 3 none 1 := ⟨kc_X7_add, ii_X7, cn_X7.1, cn_X7.2.1, pd_9, plainFor_of_name cn_X7.2.2⟩
theorem kv_X7_add : mKv yX7_add := ⟨kn_X7_add, kz_X7_add⟩
theorem km_X7_at : mKm yX7_at cX7_at 2 (some .int) 1 := ⟨kc_X7_at, ii_X7, cn_X7.1, cn_X7.2.1, pd_13, plainFor_of_name cn_X7.2.2⟩
theorem kv_X7_at : mKv yX7_at := ⟨kn_X7_at, kz_X7_at⟩
theorem km_X7_pairAt : mKm yX7_pairAt cX7_pairAt 2 (some .int) 1 := ⟨kc_X7_pairAt, ii_X7, cn_X7.1, cn_X7.2.1, pd_13, plainFor_of_name cn_X7.2.2⟩
theorem kv_X7_pairAt : mKv yX7_pairAt := ⟨kn_X7_pairAt, kz_X7_pairAt⟩
theorem km_X8_init : mKm yX8_init cX8_init 6 none 1 := ⟨kc_X8_init, ii_X8, cn_X8.1, cn_X8.2.1, pd_26, plainFor_of_name cn_X8.2.2⟩
theorem km_X8_open : mKm yX8_open cX8_open 3 none 0 := ⟨kc_X8_open, ii_X8, cn_X8.1, cn_X8.2.1, pd_12, plainFor_of_name cn_X8.2.2⟩
theorem kv_X8_open : mKv yX8_open := ⟨kn_X8_open, kz_X8_open⟩
theorem km_X8_scan : mKm yX8_scan cX8_scan 4 (some .boolean) 1 := ⟨kc_X8_scan, ii_X8, cn_X8.1, cn_X8.2.1, pd_14, plainFor_of_name cn_X8.2.2⟩
theorem kv_X8_scan : mKv yX8_scan := ⟨kn_X8_scan, lw_sl (q := (yX8_scan, 12)) 1 rfl⟩
theorem km_X8_startSolid : mKm yX8_startSolid cX8_startSolid 5 (some .boolean) 3 := ⟨kc_X8_startSolid, ii_X8, cn_X8.1, cn_X8.2.1, pd_27, plainFor_of_name cn_X8.2.2⟩
theorem kv_X8_startSolid : mKv yX8_startSolid := ⟨kn_X8_startSolid, lw_sl (q := (yX8_startSolid, 12)) 3 rfl⟩
theorem km_X8_add : mKm yX8_add cX8_add 4 none 3 := ⟨kc_X8_add, ii_X8, cn_X8.1, cn_X8.2.1, pd_22, plainFor_of_name cn_X8.2.2⟩
theorem kv_X8_add : mKv yX8_add := ⟨kn_X8_add, lw_sl (q := (yX8_add, 12)) 4 rfl⟩
theorem km_X8_addLetter : mKm yX8_addLetter cX8_addLetter 6 (some .boolean) 2 := ⟨kc_X8_addLetter, ii_X8, cn_X8.1, cn_X8.2.1, pd_21, plainFor_of_name cn_X8.2.2⟩
theorem kv_X8_addLetter : mKv yX8_addLetter := ⟨kn_X8_addLetter, lw_sl (q := (yX8_addLetter, 12)) 2 rfl⟩
theorem km_X8_addDigit : mKm yX8_addDigit cX8_addDigit 5 (some .boolean) 2 := ⟨kc_X8_addDigit, ii_X8, cn_X8.1, cn_X8.2.1, pd_21, plainFor_of_name cn_X8.2.2⟩
theorem kv_X8_addDigit : mKv yX8_addDigit := ⟨kn_X8_addDigit, lw_sl (q := (yX8_addDigit, 12)) 5 rfl⟩
theorem km_X8_markOwnWord : mKm yX8_markOwnWord cX8_markOwnWord 3 none 1 := ⟨kc_X8_markOwnWord, ii_X8, cn_X8.1, cn_X8.2.1, pd_9, plainFor_of_name cn_X8.2.2⟩
theorem kv_X8_markOwnWord : mKv yX8_markOwnWord := ⟨kn_X8_markOwnWord, lw_sl (q := (yX8_markOwnWord, 12)) 6 rfl⟩
theorem km_X8_isBlank : mKm yX8_isBlank cX8_isBlank 1 (some .boolean) 1 := ⟨kc_X8_isBlank, ii_X8, cn_X8.1, cn_X8.2.1, pd_14, plainFor_of_name cn_X8.2.2⟩
theorem km_X8_isLetter : mKm yX8_isLetter cX8_isLetter 1 (some .boolean) 1 := ⟨kc_X8_isLetter, ii_X8, cn_X8.1, cn_X8.2.1, pd_14, plainFor_of_name cn_X8.2.2⟩
theorem km_X8_isDigit : mKm yX8_isDigit cX8_isDigit 1 (some .boolean) 1 := ⟨kc_X8_isDigit, ii_X8, cn_X8.1, cn_X8.2.1, pd_14, plainFor_of_name cn_X8.2.2⟩
theorem km_X8_refuseHere : mKm yX8_refuseHere cX8_refuseHere 2 none 1 := ⟨kc_X8_refuseHere, ii_X8, cn_X8.1, cn_X8.2.1, pd_9, plainFor_of_name cn_X8.2.2⟩
theorem kv_X8_refuseHere : mKv yX8_refuseHere := ⟨kn_X8_refuseHere, kz_X8_refuseHere⟩
theorem km_X8_next : mKm yX8_next cX8_next 1 none 0 := ⟨kc_X8_next, ii_X8, cn_X8.1, cn_X8.2.1, pd_12, plainFor_of_name cn_X8.2.2⟩
theorem kv_X8_next : mKv yX8_next := ⟨kn_X8_next, kz_X8_next⟩
theorem km_X8_refuseMore : mKm yX8_refuseMore cX8_refuseMore 2 none 0 := ⟨kc_X8_refuseMore, ii_X8, cn_X8.1, cn_X8.2.1, pd_12, plainFor_of_name cn_X8.2.2⟩
theorem kv_X8_refuseMore : mKv yX8_refuseMore := ⟨kn_X8_refuseMore, kz_X8_refuseMore⟩
theorem km_X8_isMark : mKm yX8_isMark cX8_isMark 2 (some .boolean) 1 := ⟨kc_X8_isMark, ii_X8, cn_X8.1, cn_X8.2.1, pd_28, plainFor_of_name cn_X8.2.2⟩
theorem kv_X8_isMark : mKv yX8_isMark := ⟨kn_X8_isMark, kz_X8_isMark⟩
theorem km_X8_isWord : mKm yX8_isWord cX8_isWord 2 (some .boolean) 1 := ⟨kc_X8_isWord, ii_X8, cn_X8.1, cn_X8.2.1, pd_14, plainFor_of_name cn_X8.2.2⟩
theorem kv_X8_isWord : mKv yX8_isWord := ⟨kn_X8_isWord, kz_X8_isWord⟩
theorem km_X8_takeMark : mKm yX8_takeMark cX8_takeMark 2 none 1 := ⟨kc_X8_takeMark, ii_X8, cn_X8.1, cn_X8.2.1, pd_29, plainFor_of_name cn_X8.2.2⟩
theorem kv_X8_takeMark : mKv yX8_takeMark := ⟨kn_X8_takeMark, kz_X8_takeMark⟩
theorem km_X8_takeWord : mKm yX8_takeWord cX8_takeWord 2 none 1 := ⟨kc_X8_takeWord, ii_X8, cn_X8.1, cn_X8.2.1, pd_9, plainFor_of_name cn_X8.2.2⟩
theorem kv_X8_takeWord : mKv yX8_takeWord := ⟨kn_X8_takeWord, kz_X8_takeWord⟩
theorem km_X8_takeNumber : mKm yX8_takeNumber cX8_takeNumber 4 (some .int) 2 := ⟨kc_X8_takeNumber, ii_X8, cn_X8.1, cn_X8.2.1, pd_6, plainFor_of_name cn_X8.2.2⟩
theorem kv_X8_takeNumber : mKv yX8_takeNumber := ⟨kn_X8_takeNumber, kz_X8_takeNumber⟩
theorem km_X9_init : mKm yX9_init cX9_init 2 none 1 := ⟨kc_X9_init, ii_X9, cn_X9.1, cn_X9.2.1, pd_0, plainFor_of_name cn_X9.2.2⟩
theorem km_X9_forget : mKm yX9_forget cX9_forget 1 none 0 := ⟨kc_X9_forget, ii_X9, cn_X9.1, cn_X9.2.1, pd_12, plainFor_of_name cn_X9.2.2⟩
theorem kv_X9_forget : mKv yX9_forget := ⟨kn_X9_forget, kz_X9_forget⟩
theorem km_X9_takeRows : mKm yX9_takeRows cX9_takeRows 5 (some .boolean) 2 := ⟨kc_X9_takeRows, ii_X9, cn_X9.1, cn_X9.2.1, pd_30, plainFor_of_name cn_X9.2.2⟩
theorem kv_X9_takeRows : mKv yX9_takeRows := ⟨kn_X9_takeRows, kz_X9_takeRows⟩
theorem km_X9_biasBits : mKm yX9_biasBits cX9_biasBits 3 (some .int) 2 := ⟨kc_X9_biasBits, ii_X9, cn_X9.1, cn_X9.2.1, pd_2, plainFor_of_name cn_X9.2.2⟩
theorem kv_X9_biasBits : mKv yX9_biasBits := ⟨kn_X9_biasBits, kz_X9_biasBits⟩
theorem km_X9_bitsLeft : mKm yX9_bitsLeft cX9_bitsLeft 3 (some .int) 0 := ⟨kc_X9_bitsLeft, ii_X9, cn_X9.1, cn_X9.2.1, pd_10, plainFor_of_name cn_X9.2.2⟩
theorem kv_X9_bitsLeft : mKv yX9_bitsLeft := ⟨kn_X9_bitsLeft, lw_sl (q := (yX9_bitsLeft, 4)) 36 rfl⟩
theorem km_X9_tellingSteps : mKm yX9_tellingSteps cX9_tellingSteps 9 (some .int) 2 := ⟨kc_X9_tellingSteps, ii_X9, cn_X9.1, cn_X9.2.1, pd_2, plainFor_of_name cn_X9.2.2⟩
theorem kv_X9_tellingSteps : mKv yX9_tellingSteps := ⟨kn_X9_tellingSteps, kz_X9_tellingSteps⟩
theorem km_X9_followAll : mKm yX9_followAll cX9_followAll 6 none 2 := ⟨kc_X9_followAll, ii_X9, cn_X9.1, cn_X9.2.1, pd_31, plainFor_of_name cn_X9.2.2⟩
theorem kv_X9_followAll : mKv yX9_followAll := ⟨kn_X9_followAll, lw_sl (q := (yX9_followAll, 4)) 34 rfl⟩
theorem km_X9_placeOf : mKm yX9_placeOf cX9_placeOf 2 (some .int) 1 := ⟨kc_X9_placeOf, ii_X9, cn_X9.1, cn_X9.2.1, pd_13, plainFor_of_name cn_X9.2.2⟩
theorem kv_X9_placeOf : mKv yX9_placeOf := ⟨kn_X9_placeOf, lw_sl (q := (yX9_placeOf, 4)) 35 rfl⟩
theorem km_X9_fitsRows : mKm yX9_fitsRows cX9_fitsRows 6 (some .boolean) 1 := ⟨kc_X9_fitsRows, ii_X9, cn_X9.1, cn_X9.2.1, pd_14, plainFor_of_name cn_X9.2.2⟩
theorem kv_X9_fitsRows : mKv yX9_fitsRows := ⟨kn_X9_fitsRows, lw_sl (q := (yX9_fitsRows, 4)) 37 rfl⟩
theorem km_X9_mostLeft : mKm yX9_mostLeft cX9_mostLeft 8 (some .int) 2 := ⟨kc_X9_mostLeft, ii_X9, cn_X9.1, cn_X9.2.1, pd_6, plainFor_of_name cn_X9.2.2⟩
theorem kv_X9_mostLeft : mKv yX9_mostLeft := ⟨kn_X9_mostLeft, lw_sl (q := (yX9_mostLeft, 4)) 38 rfl⟩
theorem km_X10_init : mKm yX10_init cX10_init 2 none 1 := ⟨kc_X10_init, ii_X10, cn_X10.1, cn_X10.2.1, pd_0, plainFor_of_name cn_X10.2.2⟩
theorem km_X10_columnStep : mKm yX10_columnStep cX10_columnStep 1 (some .int) 1 := ⟨kc_X10_columnStep, ii_X10, cn_X10.1, cn_X10.2.1, pd_13, plainFor_of_name cn_X10.2.2⟩
theorem km_X10_rowStep : mKm yX10_rowStep cX10_rowStep 1 (some .int) 1 := ⟨kc_X10_rowStep, ii_X10, cn_X10.1, cn_X10.2.1, pd_13, plainFor_of_name cn_X10.2.2⟩
theorem km_X10_boxIn : mKm yX10_boxIn cX10_boxIn 6 (some .int) 4 := ⟨kc_X10_boxIn, ii_X10, cn_X10.1, cn_X10.2.1, pd_32, plainFor_of_name cn_X10.2.2⟩
theorem km_X10_begin : mKm yX10_begin cX10_begin 3 none 1 := ⟨kc_X10_begin, ii_X10, cn_X10.1, cn_X10.2.1, pd_0, plainFor_of_name cn_X10.2.2⟩
theorem kv_X10_begin : mKv yX10_begin := ⟨kn_X10_begin, kz_X10_begin⟩
theorem km_X10_copyFrom : mKm yX10_copyFrom cX10_copyFrom 2 none 1 := ⟨kc_X10_copyFrom, ii_X10, cn_X10.1, cn_X10.2.1, pd_17, plainFor_of_name cn_X10.2.2⟩
theorem kv_X10_copyFrom : mKv yX10_copyFrom := ⟨kn_X10_copyFrom, kz_X10_copyFrom⟩
theorem km_X10_saveTo : mKm yX10_saveTo cX10_saveTo 2 none 1 := ⟨kc_X10_saveTo, ii_X10, cn_X10.1, cn_X10.2.1, pd_33, plainFor_of_name cn_X10.2.2⟩
theorem kv_X10_saveTo : mKv yX10_saveTo := ⟨kn_X10_saveTo, kz_X10_saveTo⟩
theorem km_X10_loadFrom : mKm yX10_loadFrom cX10_loadFrom 2 none 1 := ⟨kc_X10_loadFrom, ii_X10, cn_X10.1, cn_X10.2.1, pd_33, plainFor_of_name cn_X10.2.2⟩
theorem kv_X10_loadFrom : mKv yX10_loadFrom := ⟨kn_X10_loadFrom, kz_X10_loadFrom⟩
theorem km_X10_of : mKm yX10_of cX10_of 4 (some .int) 2 := ⟨kc_X10_of, ii_X10, cn_X10.1, cn_X10.2.1, pd_6, plainFor_of_name cn_X10.2.2⟩
theorem kv_X10_of : mKv yX10_of := ⟨kn_X10_of, kz_X10_of⟩
theorem km_X10_set : mKm yX10_set cX10_set 5 none 3 := ⟨kc_X10_set, ii_X10, cn_X10.1, cn_X10.2.1, pd_22, plainFor_of_name cn_X10.2.2⟩
theorem kv_X10_set : mKv yX10_set := ⟨kn_X10_set, kz_X10_set⟩
theorem km_X10_turnBy : mKm yX10_turnBy cX10_turnBy 3 none 2 := ⟨kc_X10_turnBy, ii_X10, cn_X10.1, cn_X10.2.1, pd_11, plainFor_of_name cn_X10.2.2⟩
theorem kv_X10_turnBy : mKv yX10_turnBy := ⟨kn_X10_turnBy, kz_X10_turnBy⟩
theorem km_X10_comingSteps : mKm yX10_comingSteps cX10_comingSteps 2 (some .int) 1 := ⟨kc_X10_comingSteps, ii_X10, cn_X10.1, cn_X10.2.1, pd_13, plainFor_of_name cn_X10.2.2⟩
theorem kv_X10_comingSteps : mKv yX10_comingSteps := ⟨kn_X10_comingSteps, kz_X10_comingSteps⟩
theorem km_X10_mayPass : mKm yX10_mayPass cX10_mayPass 4 (some .boolean) 3 := ⟨kc_X10_mayPass, ii_X10, cn_X10.1, cn_X10.2.1, pd_27, plainFor_of_name cn_X10.2.2⟩
theorem kv_X10_mayPass : mKv yX10_mayPass := ⟨kn_X10_mayPass, kz_X10_mayPass⟩
theorem km_X10_boxOn : mKm yX10_boxOn cX10_boxOn 3 (some .int) 2 := ⟨kc_X10_boxOn, ii_X10, cn_X10.1, cn_X10.2.1, pd_6, plainFor_of_name cn_X10.2.2⟩
theorem kv_X10_boxOn : mKv yX10_boxOn := ⟨kn_X10_boxOn, kz_X10_boxOn⟩
theorem km_X10_isBlack : mKm yX10_isBlack cX10_isBlack 3 (some .boolean) 2 := ⟨kc_X10_isBlack, ii_X10, cn_X10.1, cn_X10.2.1, pd_21, plainFor_of_name cn_X10.2.2⟩
theorem kv_X10_isBlack : mKv yX10_isBlack := ⟨kn_X10_isBlack, kz_X10_isBlack⟩
theorem km_X10_onBlack : mKm yX10_onBlack cX10_onBlack 2 (some .boolean) 1 := ⟨kc_X10_onBlack, ii_X10, cn_X10.1, cn_X10.2.1, pd_14, plainFor_of_name cn_X10.2.2⟩
theorem kv_X10_onBlack : mKv yX10_onBlack := ⟨kn_X10_onBlack, kz_X10_onBlack⟩
theorem km_X10_blackCells : mKm yX10_blackCells cX10_blackCells 4 (some .int) 0 := ⟨kc_X10_blackCells, ii_X10, cn_X10.1, cn_X10.2.1, pd_10, plainFor_of_name cn_X10.2.2⟩
theorem kv_X10_blackCells : mKv yX10_blackCells := ⟨kn_X10_blackCells, kz_X10_blackCells⟩
theorem km_X10_lostBoxes : mKm yX10_lostBoxes cX10_lostBoxes 3 (some .int) 0 := ⟨kc_X10_lostBoxes, ii_X10, cn_X10.1, cn_X10.2.1, pd_10, plainFor_of_name cn_X10.2.2⟩
theorem kv_X10_lostBoxes : mKv yX10_lostBoxes := ⟨kn_X10_lostBoxes, kz_X10_lostBoxes⟩
theorem km_X10_emptyBoxes : mKm yX10_emptyBoxes cX10_emptyBoxes 3 (some .int) 0 := ⟨kc_X10_emptyBoxes, ii_X10, cn_X10.1, cn_X10.2.1, pd_10, plainFor_of_name cn_X10.2.2⟩
theorem kv_X10_emptyBoxes : mKv yX10_emptyBoxes := ⟨kn_X10_emptyBoxes, kz_X10_emptyBoxes⟩
theorem km_X10_greySeen : mKm yX10_greySeen cX10_greySeen 9 (some .int) 2 := ⟨kc_X10_greySeen, ii_X10, cn_X10.1, cn_X10.2.1, pd_6, plainFor_of_name cn_X10.2.2⟩
theorem kv_X10_greySeen : mKv yX10_greySeen := ⟨kn_X10_greySeen, kz_X10_greySeen⟩
theorem km_X10_pass : mKm yX10_pass cX10_pass 4 none 2 := ⟨kc_X10_pass, ii_X10, cn_X10.1, cn_X10.2.1, pd_11, plainFor_of_name cn_X10.2.2⟩
theorem kv_X10_pass : mKv yX10_pass := ⟨kn_X10_pass, kz_X10_pass⟩
theorem km_X10_moveBox : mKm yX10_moveBox cX10_moveBox 7 none 1 := ⟨kc_X10_moveBox, ii_X10, cn_X10.1, cn_X10.2.1, pd_9, plainFor_of_name cn_X10.2.2⟩
theorem kv_X10_moveBox : mKv yX10_moveBox := ⟨kn_X10_moveBox, lw_sl (q := (yX10_moveBox, 8)) 28 rfl⟩
theorem km_X10_goAhead : mKm yX10_goAhead cX10_goAhead 5 none 1 := ⟨kc_X10_goAhead, ii_X10, cn_X10.1, cn_X10.2.1, pd_9, plainFor_of_name cn_X10.2.2⟩
theorem kv_X10_goAhead : mKv yX10_goAhead := ⟨kn_X10_goAhead, lw_sl (q := (yX10_goAhead, 8)) 29 rfl⟩
theorem km_X11_init : mKm yX11_init cX11_init 1 none 0 := ⟨kc_X11_init, ii_X11, cn_X11.1, cn_X11.2.1, pd_12, plainFor_of_name cn_X11.2.2⟩
theorem km_X11_feed : mKm yX11_feed cX11_feed 6 (some .int) 5 := ⟨kc_X11_feed, ii_X11, cn_X11.1, cn_X11.2.1, pd_34, plainFor_of_name cn_X11.2.2⟩
theorem kv_X11_feed : mKv yX11_feed := ⟨kn_X11_feed, kz_X11_feed⟩
theorem km_X11_end : mKm yX11_end cX11_end 2 (some .boolean) 1 := ⟨kc_X11_end, ii_X11, cn_X11.1, cn_X11.2.1, pd_14, plainFor_of_name cn_X11.2.2⟩
theorem kv_X11_end : mKv yX11_end := ⟨kn_X11_end, kz_X11_end⟩
theorem km_X11_kitchen : mKm yX11_kitchen cX11_kitchen 3 (some .int) 0 := ⟨kc_X11_kitchen, ii_X11, cn_X11.1, cn_X11.2.1, pd_10, plainFor_of_name cn_X11.2.2⟩
theorem kv_X11_kitchen : mKv yX11_kitchen := ⟨kn_X11_kitchen, kz_X11_kitchen⟩
theorem km_X11_fault : mKm yX11_fault cX11_fault 2 (some .int) 1 := ⟨kc_X11_fault, ii_X11, cn_X11.1, cn_X11.2.1, pd_13, plainFor_of_name cn_X11.2.2⟩
theorem kv_X11_fault : mKv yX11_fault := ⟨kn_X11_fault, kz_X11_fault⟩
theorem km_X11_has : mKm yX11_has cX11_has 2 (some .int) 1 := ⟨kc_X11_has, ii_X11, cn_X11.1, cn_X11.2.1, pd_13, plainFor_of_name cn_X11.2.2⟩
theorem kv_X11_has : mKv yX11_has := ⟨kn_X11_has, kz_X11_has⟩
theorem km_X11_letter : mKm yX11_letter cX11_letter 3 (some .int) 2 := ⟨kc_X11_letter, ii_X11, cn_X11.1, cn_X11.2.1, pd_6, plainFor_of_name cn_X11.2.2⟩
theorem kv_X11_letter : mKv yX11_letter := ⟨kn_X11_letter, kz_X11_letter⟩
theorem km_X11_cell : mKm yX11_cell cX11_cell 4 (some .int) 3 := ⟨kc_X11_cell, ii_X11, cn_X11.1, cn_X11.2.1, pd_35, plainFor_of_name cn_X11.2.2⟩
theorem kv_X11_cell : mKv yX11_cell := ⟨kn_X11_cell, kz_X11_cell⟩
theorem km_X11_box : mKm yX11_box cX11_box 3 (some .int) 2 := ⟨kc_X11_box, ii_X11, cn_X11.1, cn_X11.2.1, pd_6, plainFor_of_name cn_X11.2.2⟩
theorem kv_X11_box : mKv yX11_box := ⟨kn_X11_box, kz_X11_box⟩
theorem km_X11_sees : mKm yX11_sees cX11_sees 3 (some .int) 2 := ⟨kc_X11_sees, ii_X11, cn_X11.1, cn_X11.2.1, pd_6, plainFor_of_name cn_X11.2.2⟩
theorem kv_X11_sees : mKv yX11_sees := ⟨kn_X11_sees, kz_X11_sees⟩
theorem km_X11_later : mKm yX11_later cX11_later 4 (some .int) 3 := ⟨kc_X11_later, ii_X11, cn_X11.1, cn_X11.2.1, pd_35, plainFor_of_name cn_X11.2.2⟩
theorem kv_X11_later : mKv yX11_later := ⟨kn_X11_later, kz_X11_later⟩
theorem km_X11_round : mKm yX11_round cX11_round 2 (some .int) 1 := ⟨kc_X11_round, ii_X11, cn_X11.1, cn_X11.2.1, pd_13, plainFor_of_name cn_X11.2.2⟩
theorem kv_X11_round : mKv yX11_round := ⟨kn_X11_round, kz_X11_round⟩
theorem km_X11_loses : mKm yX11_loses cX11_loses 3 (some .int) 2 := ⟨kc_X11_loses, ii_X11, cn_X11.1, cn_X11.2.1, pd_6, plainFor_of_name cn_X11.2.2⟩
theorem kv_X11_loses : mKv yX11_loses := ⟨kn_X11_loses, kz_X11_loses⟩
theorem km_X11_jam : mKm yX11_jam cX11_jam 1 (some .int) 0 := ⟨kc_X11_jam, ii_X11, cn_X11.1, cn_X11.2.1, pd_10, plainFor_of_name cn_X11.2.2⟩
theorem kv_X11_jam : mKv yX11_jam := ⟨kn_X11_jam, kz_X11_jam⟩
theorem km_X11_gap : mKm yX11_gap cX11_gap 4 (some .int) 3 := ⟨kc_X11_gap, ii_X11, cn_X11.1, cn_X11.2.1, pd_35, plainFor_of_name cn_X11.2.2⟩
theorem kv_X11_gap : mKv yX11_gap := ⟨kn_X11_gap, kz_X11_gap⟩
theorem km_X11_tuned : mKm yX11_tuned cX11_tuned 4 (some .int) 3 := ⟨kc_X11_tuned, ii_X11, cn_X11.1, cn_X11.2.1, pd_35, plainFor_of_name cn_X11.2.2⟩
theorem kv_X11_tuned : mKv yX11_tuned := ⟨kn_X11_tuned, kz_X11_tuned⟩
theorem km_X11_found : mKm yX11_found cX11_found 2 (some .int) 1 := ⟨kc_X11_found, ii_X11, cn_X11.1, cn_X11.2.1, pd_13, plainFor_of_name cn_X11.2.2⟩
theorem kv_X11_found : mKv yX11_found := ⟨kn_X11_found, kz_X11_found⟩
theorem km_X11_spaced : mKm yX11_spaced cX11_spaced 2 (some .int) 1 := ⟨kc_X11_spaced, ii_X11, cn_X11.1, cn_X11.2.1, pd_13, plainFor_of_name cn_X11.2.2⟩
theorem kv_X11_spaced : mKv yX11_spaced := ⟨kn_X11_spaced, kz_X11_spaced⟩
theorem km_X11_bright : mKm yX11_bright cX11_bright 2 (some .int) 1 := ⟨kc_X11_bright, ii_X11, cn_X11.1, cn_X11.2.1, pd_13, plainFor_of_name cn_X11.2.2⟩
theorem kv_X11_bright : mKv yX11_bright := ⟨kn_X11_bright, kz_X11_bright⟩
theorem km_X11_track : mKm yX11_track cX11_track 2 (some .int) 0 := ⟨kc_X11_track, ii_X11, cn_X11.1, cn_X11.2.1, pd_10, plainFor_of_name cn_X11.2.2⟩
theorem kv_X11_track : mKv yX11_track := ⟨kn_X11_track, kz_X11_track⟩
theorem km_X11_wheel : mKm yX11_wheel cX11_wheel 3 (some .int) 2 := ⟨kc_X11_wheel, ii_X11, cn_X11.1, cn_X11.2.1, pd_6, plainFor_of_name cn_X11.2.2⟩
theorem kv_X11_wheel : mKv yX11_wheel := ⟨kn_X11_wheel, kz_X11_wheel⟩
theorem km_X11_steps : mKm yX11_steps cX11_steps 4 (some .int) 1 := ⟨kc_X11_steps, ii_X11, cn_X11.1, cn_X11.2.1, pd_13, plainFor_of_name cn_X11.2.2⟩
theorem kv_X11_steps : mKv yX11_steps := ⟨kn_X11_steps, kz_X11_steps⟩
theorem km_X11_chance : mKm yX11_chance cX11_chance 4 (some .int) 1 := ⟨kc_X11_chance, ii_X11, cn_X11.1, cn_X11.2.1, pd_13, plainFor_of_name cn_X11.2.2⟩
theorem kv_X11_chance : mKv yX11_chance := ⟨kn_X11_chance, kz_X11_chance⟩
theorem km_X11_turn : mKm yX11_turn cX11_turn 3 (some .boolean) 2 := ⟨kc_X11_turn, ii_X11, cn_X11.1, cn_X11.2.1, pd_21, plainFor_of_name cn_X11.2.2⟩
theorem kv_X11_turn : mKv yX11_turn := ⟨kn_X11_turn, kz_X11_turn⟩
theorem km_X11_put : mKm yX11_put cX11_put 4 (some .boolean) 3 := ⟨kc_X11_put, ii_X11, cn_X11.1, cn_X11.2.1, pd_27, plainFor_of_name cn_X11.2.2⟩
theorem kv_X11_put : mKv yX11_put := ⟨kn_X11_put, kz_X11_put⟩
theorem km_X11_shine : mKm yX11_shine cX11_shine 2 (some .boolean) 1 := ⟨kc_X11_shine, ii_X11, cn_X11.1, cn_X11.2.1, pd_14, plainFor_of_name cn_X11.2.2⟩
theorem kv_X11_shine : mKv yX11_shine := ⟨kn_X11_shine, kz_X11_shine⟩
theorem km_X11_undo : mKm yX11_undo cX11_undo 1 (some .boolean) 0 := ⟨kc_X11_undo, ii_X11, cn_X11.1, cn_X11.2.1, pd_20, plainFor_of_name cn_X11.2.2⟩
theorem kv_X11_undo : mKv yX11_undo := ⟨kn_X11_undo, kz_X11_undo⟩
theorem km_X11_seed : mKm yX11_seed cX11_seed 2 (some .boolean) 1 := ⟨kc_X11_seed, ii_X11, cn_X11.1, cn_X11.2.1, pd_14, plainFor_of_name cn_X11.2.2⟩
theorem kv_X11_seed : mKv yX11_seed := ⟨kn_X11_seed, kz_X11_seed⟩
theorem km_X11_kept : mKm yX11_kept cX11_kept 3 (some .int) 2 := ⟨kc_X11_kept, ii_X11, cn_X11.1, cn_X11.2.1, pd_6, plainFor_of_name cn_X11.2.2⟩
theorem kv_X11_kept : mKv yX11_kept := ⟨kn_X11_kept, kz_X11_kept⟩
theorem km_X11_image : mKm yX11_image cX11_image 1 (some .int) 0 := ⟨kc_X11_image, ii_X11, cn_X11.1, cn_X11.2.1, pd_10, plainFor_of_name cn_X11.2.2⟩
theorem kv_X11_image : mKv yX11_image := ⟨kn_X11_image, kz_X11_image⟩
theorem km_X11_octet : mKm yX11_octet cX11_octet 2 (some .int) 1 := ⟨kc_X11_octet, ii_X11, cn_X11.1, cn_X11.2.1, pd_13, plainFor_of_name cn_X11.2.2⟩
theorem kv_X11_octet : mKv yX11_octet := ⟨kn_X11_octet, kz_X11_octet⟩
theorem km_X11_on : mKm yX11_on cX11_on 2 (some .boolean) 0 := ⟨kc_X11_on, ii_X11, cn_X11.1, cn_X11.2.1, pd_20, plainFor_of_name cn_X11.2.2⟩
theorem kv_X11_on : mKv yX11_on := ⟨kn_X11_on, kz_X11_on⟩
theorem km_X11_status : mKm yX11_status cX11_status 2 (some .int) 1 := ⟨kc_X11_status, ii_X11, cn_X11.1, cn_X11.2.1, pd_13, plainFor_of_name cn_X11.2.2⟩
theorem kv_X11_status : mKv yX11_status := ⟨kn_X11_status, kz_X11_status⟩
theorem km_X11_refuse : mKm yX11_refuse cX11_refuse 2 (some .int) 1 := ⟨kc_X11_refuse, ii_X11, cn_X11.1, cn_X11.2.1, pd_13, plainFor_of_name cn_X11.2.2⟩
theorem kv_X11_refuse : mKv yX11_refuse := ⟨kn_X11_refuse, lw_sl (q := (yX11_refuse, 13)) 0 rfl⟩
theorem km_X11_passStep : mKm yX11_passStep cX11_passStep 1 (some .int) 0 := ⟨kc_X11_passStep, ii_X11, cn_X11.1, cn_X11.2.1, pd_10, plainFor_of_name cn_X11.2.2⟩
theorem kv_X11_passStep : mKv yX11_passStep := ⟨kn_X11_passStep, lw_sl (q := (yX11_passStep, 13)) 39 rfl⟩
theorem km_X11_letCatCome : mKm yX11_letCatCome cX11_letCatCome 1 (some .boolean) 0 := ⟨kc_X11_letCatCome, ii_X11, cn_X11.1, cn_X11.2.1, pd_20, plainFor_of_name cn_X11.2.2⟩
theorem kv_X11_letCatCome : mKv yX11_letCatCome := ⟨kn_X11_letCatCome, lw_sl (q := (yX11_letCatCome, 13)) 40 rfl⟩
theorem km_X11_draw : mKm yX11_draw cX11_draw 4 (some .int) 1 := ⟨kc_X11_draw, ii_X11, cn_X11.1, cn_X11.2.1, pd_13, plainFor_of_name cn_X11.2.2⟩
theorem kv_X11_draw : mKv yX11_draw := ⟨kn_X11_draw, lw_sl (q := (yX11_draw, 13)) 41 rfl⟩
theorem km_X12_init : mKm yX12_init cX12_init 2 none 0 := ⟨kc_X12_init, ii_X12, cn_X12.1, cn_X12.2.1, pd_12, plainFor_of_name cn_X12.2.2⟩
theorem km_X12_is : mKm yX12_is cX12_is 3 (some .boolean) 3 := ⟨kc_X12_is, ii_X12, cn_X12.1, cn_X12.2.1, pd_27, plainFor_of_name cn_X12.2.2⟩
theorem km_X12_put : mKm yX12_put cX12_put 3 none 1 := ⟨kc_X12_put, ii_X12, cn_X12.1, cn_X12.2.1, pd_9, plainFor_of_name cn_X12.2.2⟩
theorem kv_X12_put : mKv yX12_put := ⟨kn_X12_put, lw_sl (q := (yX12_put, 72)) 47 rfl⟩
theorem km_X12_feed : mKm yX12_feed cX12_feed 6 (some .int) 5 := ⟨kc_X12_feed, ii_X12, cn_X12.1, cn_X12.2.1, pd_34, plainFor_of_name cn_X12.2.2⟩
theorem kv_X12_feed : mKv yX12_feed := ⟨kn_X12_feed, kz_X12_feed⟩
theorem km_X12_end : mKm yX12_end cX12_end 2 (some .boolean) 1 := ⟨kc_X12_end, ii_X12, cn_X12.1, cn_X12.2.1, pd_14, plainFor_of_name cn_X12.2.2⟩
theorem kv_X12_end : mKv yX12_end := ⟨kn_X12_end, kz_X12_end⟩
theorem km_X12_blame : mKm yX12_blame cX12_blame 3 none 2 := ⟨kc_X12_blame, ii_X12, cn_X12.1, cn_X12.2.1, pd_11, plainFor_of_name cn_X12.2.2⟩
theorem kv_X12_blame : mKv yX12_blame := ⟨kn_X12_blame, lw_sl (q := (yX12_blame, 72)) 52 rfl⟩
theorem km_X12_isLetter : mKm yX12_isLetter cX12_isLetter 1 (some .boolean) 1 := ⟨kc_X12_isLetter, ii_X12, cn_X12.1, cn_X12.2.1, pd_14, plainFor_of_name cn_X12.2.2⟩
theorem km_X12_isDigit : mKm yX12_isDigit cX12_isDigit 1 (some .boolean) 1 := ⟨kc_X12_isDigit, ii_X12, cn_X12.1, cn_X12.2.1, pd_14, plainFor_of_name cn_X12.2.2⟩
theorem km_X12_lex : mKm yX12_lex cX12_lex 1 none 0 := ⟨kc_X12_lex, ii_X12, cn_X12.1, cn_X12.2.1, pd_12, plainFor_of_name cn_X12.2.2⟩
theorem kv_X12_lex : mKv yX12_lex := ⟨kn_X12_lex, lw_sl (q := (yX12_lex, 72)) 51 rfl⟩
theorem km_X12_ahead : mKm yX12_ahead cX12_ahead 6 none 0 := ⟨kc_X12_ahead, ii_X12, cn_X12.1, cn_X12.2.1, pd_12, plainFor_of_name cn_X12.2.2⟩
theorem kv_X12_ahead : mKv yX12_ahead := ⟨kn_X12_ahead, lw_sl (q := (yX12_ahead, 72)) 48 rfl⟩
theorem km_X12_isSign : mKm yX12_isSign cX12_isSign 2 (some .boolean) 1 := ⟨kc_X12_isSign, ii_X12, cn_X12.1, cn_X12.2.1, pd_14, plainFor_of_name cn_X12.2.2⟩
theorem kv_X12_isSign : mKv yX12_isSign := ⟨kn_X12_isSign, lw_sl (q := (yX12_isSign, 72)) 56 rfl⟩
theorem km_X12_isWord : mKm yX12_isWord cX12_isWord 3 (some .boolean) 1 := ⟨kc_X12_isWord, ii_X12, cn_X12.1, cn_X12.2.1, pd_36, plainFor_of_name cn_X12.2.2⟩
theorem kv_X12_isWord : mKv yX12_isWord := ⟨kn_X12_isWord, lw_sl (q := (yX12_isWord, 72)) 53 rfl⟩
theorem km_X12_must : mKm yX12_must cX12_must 2 none 1 := ⟨kc_X12_must, ii_X12, cn_X12.1, cn_X12.2.1, pd_9, plainFor_of_name cn_X12.2.2⟩
theorem kv_X12_must : mKv yX12_must := ⟨kn_X12_must, lw_sl (q := (yX12_must, 72)) 57 rfl⟩
theorem km_X12_isOwn : mKm yX12_isOwn cX12_isOwn 3 (some .boolean) 1 := ⟨kc_X12_isOwn, ii_X12, cn_X12.1, cn_X12.2.1, pd_36, plainFor_of_name cn_X12.2.2⟩
theorem kv_X12_isOwn : mKv yX12_isOwn := ⟨kn_X12_isOwn, lw_sl (q := (yX12_isOwn, 72)) 63 rfl⟩
theorem km_X12_isDefault : mKm yX12_isDefault cX12_isDefault 2 none 1 := ⟨kc_X12_isDefault, ii_X12, cn_X12.1, cn_X12.2.1, pd_9, plainFor_of_name cn_X12.2.2⟩
theorem kv_X12_isDefault : mKv yX12_isDefault := ⟨kn_X12_isDefault, lw_sl (q := (yX12_isDefault, 72)) 45 rfl⟩
theorem km_X12_toldOf : mKm yX12_toldOf cX12_toldOf 2 (some .int) 1 := ⟨kc_X12_toldOf, ii_X12, cn_X12.1, cn_X12.2.1, pd_13, plainFor_of_name cn_X12.2.2⟩
theorem kv_X12_toldOf : mKv yX12_toldOf := ⟨kn_X12_toldOf, lw_sl (q := (yX12_toldOf, 72)) 79 rfl⟩
theorem km_X12_named : mKm yX12_named cX12_named 4 (some .int) 1 := ⟨kc_X12_named, ii_X12, cn_X12.1, cn_X12.2.1, pd_37, plainFor_of_name cn_X12.2.2⟩
theorem kv_X12_named : mKv yX12_named := ⟨kn_X12_named, lw_sl (q := (yX12_named, 72)) 64 rfl⟩
theorem km_X12_number : mKm yX12_number cX12_number 4 (some .int) 2 := ⟨kc_X12_number, ii_X12, cn_X12.1, cn_X12.2.1, pd_6, plainFor_of_name cn_X12.2.2⟩
theorem kv_X12_number : mKv yX12_number := ⟨kn_X12_number, lw_sl (q := (yX12_number, 72)) 54 rfl⟩
theorem km_X12_add : mKm yX12_add cX12_add 3 none 2 := ⟨kc_X12_add, ii_X12, cn_X12.1, cn_X12.2.1, pd_11, plainFor_of_name cn_X12.2.2⟩
theorem kv_X12_add : mKv yX12_add := ⟨kn_X12_add, lw_sl (q := (yX12_add, 72)) 74 rfl⟩
theorem km_X12_rank : mKm yX12_rank cX12_rank 1 (some .int) 1 := ⟨kc_X12_rank, ii_X12, cn_X12.1, cn_X12.2.1, pd_13, plainFor_of_name cn_X12.2.2⟩
theorem km_X12_joins : mKm yX12_joins cX12_joins 2 none 1 := ⟨kc_X12_joins, ii_X12, cn_X12.1, cn_X12.2.1, pd_9, plainFor_of_name cn_X12.2.2⟩
theorem kv_X12_joins : mKv yX12_joins := ⟨kn_X12_joins, lw_sl (q := (yX12_joins, 72)) 76 rfl⟩
theorem km_X12_holdsBack : mKm yX12_holdsBack cX12_holdsBack 2 none 1 := ⟨kc_X12_holdsBack, ii_X12, cn_X12.1, cn_X12.2.1, pd_9, plainFor_of_name cn_X12.2.2⟩
theorem kv_X12_holdsBack : mKv yX12_holdsBack := ⟨kn_X12_holdsBack, lw_sl (q := (yX12_holdsBack, 72)) 72 rfl⟩
theorem km_X12_pushes : mKm yX12_pushes cX12_pushes 2 none 1 := ⟨kc_X12_pushes, ii_X12, cn_X12.1, cn_X12.2.1, pd_9, plainFor_of_name cn_X12.2.2⟩
theorem kv_X12_pushes : mKv yX12_pushes := ⟨kn_X12_pushes, lw_sl (q := (yX12_pushes, 72)) 70 rfl⟩
theorem km_X12_opens : mKm yX12_opens cX12_opens 2 none 1 := ⟨kc_X12_opens, ii_X12, cn_X12.1, cn_X12.2.1, pd_9, plainFor_of_name cn_X12.2.2⟩
theorem kv_X12_opens : mKv yX12_opens := ⟨kn_X12_opens, lw_sl (q := (yX12_opens, 72)) 73 rfl⟩
theorem km_X12_isTest : mKm yX12_isTest cX12_isTest 1 (some .boolean) 1 := ⟨kc_X12_isTest, ii_X12, cn_X12.1, cn_X12.2.1, pd_14, plainFor_of_name cn_X12.2.2⟩
theorem km_X12_operand : mKm yX12_operand cX12_operand 4 (some .boolean) 0 := ⟨kc_X12_operand, ii_X12, cn_X12.1, cn_X12.2.1, pd_20, plainFor_of_name cn_X12.2.2⟩
theorem kv_X12_operand : mKv yX12_operand := ⟨kn_X12_operand, lw_sl (q := (yX12_operand, 72)) 71 rfl⟩
theorem km_X12_goesOn : mKm yX12_goesOn cX12_goesOn 5 (some .boolean) 0 := ⟨kc_X12_goesOn, ii_X12, cn_X12.1, cn_X12.2.1, pd_20, plainFor_of_name cn_X12.2.2⟩
theorem kv_X12_goesOn : mKv yX12_goesOn := ⟨kn_X12_goesOn, lw_sl (q := (yX12_goesOn, 72)) 75 rfl⟩
theorem km_X12_reads : mKm yX12_reads cX12_reads 3 none 1 := ⟨kc_X12_reads, ii_X12, cn_X12.1, cn_X12.2.1, pd_25, plainFor_of_name cn_X12.2.2⟩
theorem kv_X12_reads : mKv yX12_reads := ⟨kn_X12_reads, lw_sl (q := (yX12_reads, 72)) 69 rfl⟩
theorem km_X12_counts : mKm yX12_counts cX12_counts 2 (some .boolean) 1 := ⟨kc_X12_counts, ii_X12, cn_X12.1, cn_X12.2.1, pd_38, plainFor_of_name cn_X12.2.2⟩
theorem kv_X12_counts : mKv yX12_counts := ⟨kn_X12_counts, lw_sl (q := (yX12_counts, 72)) 60 rfl⟩
theorem km_X12_must_ : mKm yX12_must_ cX12_must_ 3 none 1 := ⟨kc_X12_must_, ii_X12, cn_X12.1, cn_X12.2.1, pd_39, plainFor_of_name cn_X12.2.2⟩
theorem kv_X12_must_ : mKv yX12_must_ := ⟨kn_X12_must_, lw_sl (q := (yX12_must_, 72)) 50 rfl⟩
theorem km_X12_fresh : mKm yX12_fresh cX12_fresh 3 (some .long) 0 := ⟨kc_X12_fresh, ii_X12, cn_X12.1, cn_X12.2.1, pd_40, plainFor_of_name cn_X12.2.2⟩
theorem kv_X12_fresh : mKv yX12_fresh := ⟨kn_X12_fresh, lw_sl (q := (yX12_fresh, 72)) 62 rfl⟩
theorem km_X12_known : mKm yX12_known cX12_known 2 (some .int) 0 := ⟨kc_X12_known, ii_X12, cn_X12.1, cn_X12.2.1, pd_10, plainFor_of_name cn_X12.2.2⟩
theorem kv_X12_known : mKv yX12_known := ⟨kn_X12_known, lw_sl (q := (yX12_known, 72)) 66 rfl⟩
theorem km_X12_begins : mKm yX12_begins cX12_begins 2 none 0 := ⟨kc_X12_begins, ii_X12, cn_X12.1, cn_X12.2.1, pd_12, plainFor_of_name cn_X12.2.2⟩
theorem kv_X12_begins : mKv yX12_begins := ⟨kn_X12_begins, lw_sl (q := (yX12_begins, 72)) 49 rfl⟩
theorem km_X12_greying : mKm yX12_greying cX12_greying 4 none 0 := ⟨kc_X12_greying, ii_X12, cn_X12.1, cn_X12.2.1, pd_12, plainFor_of_name cn_X12.2.2⟩
theorem kv_X12_greying : mKv yX12_greying := ⟨kn_X12_greying, lw_sl (q := (yX12_greying, 72)) 59 rfl⟩
theorem km_X12_boxing : mKm yX12_boxing cX12_boxing 6 none 0 := ⟨kc_X12_boxing, ii_X12, cn_X12.1, cn_X12.2.1, pd_12, plainFor_of_name cn_X12.2.2⟩
theorem kv_X12_boxing : mKv yX12_boxing := ⟨kn_X12_boxing, lw_sl (q := (yX12_boxing, 72)) 61 rfl⟩
theorem km_X12_eyeing : mKm yX12_eyeing cX12_eyeing 4 none 0 := ⟨kc_X12_eyeing, ii_X12, cn_X12.1, cn_X12.2.1, pd_12, plainFor_of_name cn_X12.2.2⟩
theorem kv_X12_eyeing : mKv yX12_eyeing := ⟨kn_X12_eyeing, lw_sl (q := (yX12_eyeing, 72)) 65 rfl⟩
theorem km_X12_biasing : mKm yX12_biasing cX12_biasing 3 none 0 := ⟨kc_X12_biasing, ii_X12, cn_X12.1, cn_X12.2.1, pd_12, plainFor_of_name cn_X12.2.2⟩
theorem kv_X12_biasing : mKv yX12_biasing := ⟨kn_X12_biasing, lw_sl (q := (yX12_biasing, 72)) 67 rfl⟩
theorem km_X12_reading : mKm yX12_reading cX12_reading 3 none 1 := ⟨kc_X12_reading, ii_X12, cn_X12.1, cn_X12.2.1, pd_9, plainFor_of_name cn_X12.2.2⟩
theorem kv_X12_reading : mKv yX12_reading := ⟨kn_X12_reading, lw_sl (q := (yX12_reading, 72)) 68 rfl⟩
theorem km_X12_telling : mKm yX12_telling cX12_telling 4 none 2 := ⟨kc_X12_telling, ii_X12, cn_X12.1, cn_X12.2.1, pd_11, plainFor_of_name cn_X12.2.2⟩
theorem kv_X12_telling : mKv yX12_telling := ⟨kn_X12_telling, lw_sl (q := (yX12_telling, 72)) 77 rfl⟩
theorem km_X12_statement : mKm yX12_statement cX12_statement 1 none 0 := ⟨kc_X12_statement, ii_X12, cn_X12.1, cn_X12.2.1, pd_12, plainFor_of_name cn_X12.2.2⟩
theorem kv_X12_statement : mKv yX12_statement := ⟨kn_X12_statement, lw_sl (q := (yX12_statement, 72)) 58 rfl⟩
theorem km_X12_finishes : mKm yX12_finishes cX12_finishes 3 none 1 := ⟨kc_X12_finishes, ii_X12, cn_X12.1, cn_X12.2.1, pd_9, plainFor_of_name cn_X12.2.2⟩
theorem kv_X12_finishes : mKv yX12_finishes := ⟨kn_X12_finishes, lw_sl (q := (yX12_finishes, 72)) 55 rfl⟩
theorem km_X12_kitchen : mKm yX12_kitchen cX12_kitchen 2 (some .int) 0 := ⟨kc_X12_kitchen, ii_X12, cn_X12.1, cn_X12.2.1, pd_10, plainFor_of_name cn_X12.2.2⟩
theorem kv_X12_kitchen : mKv yX12_kitchen := ⟨kn_X12_kitchen, kz_X12_kitchen⟩
theorem km_X12_fault : mKm yX12_fault cX12_fault 2 (some .int) 1 := ⟨kc_X12_fault, ii_X12, cn_X12.1, cn_X12.2.1, pd_13, plainFor_of_name cn_X12.2.2⟩
theorem kv_X12_fault : mKv yX12_fault := ⟨kn_X12_fault, kz_X12_fault⟩
theorem km_X12_refuses : mKm yX12_refuses cX12_refuses 2 (some .int) 1 := ⟨kc_X12_refuses, ii_X12, cn_X12.1, cn_X12.2.1, pd_13, plainFor_of_name cn_X12.2.2⟩
theorem kv_X12_refuses : mKv yX12_refuses := ⟨kn_X12_refuses, lw_sl (q := (yX12_refuses, 72)) 46 rfl⟩
theorem km_X12_status : mKm yX12_status cX12_status 2 (some .int) 1 := ⟨kc_X12_status, ii_X12, cn_X12.1, cn_X12.2.1, pd_13, plainFor_of_name cn_X12.2.2⟩
theorem kv_X12_status : mKv yX12_status := ⟨kn_X12_status, kz_X12_status⟩
theorem km_X12_copies : mKm yX12_copies cX12_copies 4 none 2 := ⟨kc_X12_copies, ii_X12, cn_X12.1, cn_X12.2.1, pd_11, plainFor_of_name cn_X12.2.2⟩
theorem kv_X12_copies : mKv yX12_copies := ⟨kn_X12_copies, lw_sl (q := (yX12_copies, 72)) 81 rfl⟩
theorem km_X12_begin : mKm yX12_begin cX12_begin 2 none 0 := ⟨kc_X12_begin, ii_X12, cn_X12.1, cn_X12.2.1, pd_12, plainFor_of_name cn_X12.2.2⟩
theorem kv_X12_begin : mKv yX12_begin := ⟨kn_X12_begin, lw_sl (q := (yX12_begin, 72)) 78 rfl⟩
theorem km_X12_slot : mKm yX12_slot cX12_slot 2 (some .int) 1 := ⟨kc_X12_slot, ii_X12, cn_X12.1, cn_X12.2.1, pd_13, plainFor_of_name cn_X12.2.2⟩
theorem kv_X12_slot : mKv yX12_slot := ⟨kn_X12_slot, lw_sl (q := (yX12_slot, 72)) 80 rfl⟩
theorem km_X12_keeps : mKm yX12_keeps cX12_keeps 1 none 0 := ⟨kc_X12_keeps, ii_X12, cn_X12.1, cn_X12.2.1, pd_12, plainFor_of_name cn_X12.2.2⟩
theorem kv_X12_keeps : mKv yX12_keeps := ⟨kn_X12_keeps, lw_sl (q := (yX12_keeps, 72)) 102 rfl⟩
theorem km_X12_undo : mKm yX12_undo cX12_undo 1 (some .boolean) 0 := ⟨kc_X12_undo, ii_X12, cn_X12.1, cn_X12.2.1, pd_20, plainFor_of_name cn_X12.2.2⟩
theorem kv_X12_undo : mKv yX12_undo := ⟨kn_X12_undo, kz_X12_undo⟩
theorem km_X12_held : mKm yX12_held cX12_held 2 (some .long) 1 := ⟨kc_X12_held, ii_X12, cn_X12.1, cn_X12.2.1, pd_41, plainFor_of_name cn_X12.2.2⟩
theorem km_X12_floor : mKm yX12_floor cX12_floor 6 (some .long) 2 := ⟨kc_X12_floor, ii_X12, cn_X12.1, cn_X12.2.1, pd_42, plainFor_of_name cn_X12.2.2⟩
theorem km_X12_two : mKm yX12_two cX12_two 5 (some .long) 3 := ⟨kc_X12_two, ii_X12, cn_X12.1, cn_X12.2.1, pd_16, plainFor_of_name cn_X12.2.2⟩
theorem km_X12_reckons : mKm yX12_reckons cX12_reckons 5 (some .long) 1 := ⟨kc_X12_reckons, ii_X12, cn_X12.1, cn_X12.2.1, pd_43, plainFor_of_name cn_X12.2.2⟩
theorem kv_X12_reckons : mKv yX12_reckons := ⟨kn_X12_reckons, lw_sl (q := (yX12_reckons, 72)) 96 rfl⟩
theorem km_X12_isTold : mKm yX12_isTold cX12_isTold 2 (some .boolean) 1 := ⟨kc_X12_isTold, ii_X12, cn_X12.1, cn_X12.2.1, pd_14, plainFor_of_name cn_X12.2.2⟩
theorem kv_X12_isTold : mKv yX12_isTold := ⟨kn_X12_isTold, lw_sl (q := (yX12_isTold, 72)) 95 rfl⟩
theorem km_X12_isOn : mKm yX12_isOn cX12_isOn 3 (some .boolean) 2 := ⟨kc_X12_isOn, ii_X12, cn_X12.1, cn_X12.2.1, pd_21, plainFor_of_name cn_X12.2.2⟩
theorem kv_X12_isOn : mKv yX12_isOn := ⟨kn_X12_isOn, lw_sl (q := (yX12_isOn, 72)) 82 rfl⟩
theorem km_X12_columnBy : mKm yX12_columnBy cX12_columnBy 1 (some .int) 1 := ⟨kc_X12_columnBy, ii_X12, cn_X12.1, cn_X12.2.1, pd_13, plainFor_of_name cn_X12.2.2⟩
theorem km_X12_rowBy : mKm yX12_rowBy cX12_rowBy 1 (some .int) 1 := ⟨kc_X12_rowBy, ii_X12, cn_X12.1, cn_X12.2.1, pd_13, plainFor_of_name cn_X12.2.2⟩
theorem km_X12_off : mKm yX12_off cX12_off 8 (some .int) 4 := ⟨kc_X12_off, ii_X12, cn_X12.1, cn_X12.2.1, pd_44, plainFor_of_name cn_X12.2.2⟩
theorem kv_X12_off : mKv yX12_off := ⟨kn_X12_off, lw_sl (q := (yX12_off, 72)) 90 rfl⟩
theorem km_X12_seen : mKm yX12_seen cX12_seen 4 (some .int) 2 := ⟨kc_X12_seen, ii_X12, cn_X12.1, cn_X12.2.1, pd_6, plainFor_of_name cn_X12.2.2⟩
theorem kv_X12_seen : mKv yX12_seen := ⟨kn_X12_seen, lw_sl (q := (yX12_seen, 72)) 84 rfl⟩
theorem km_X12_isBlack : mKm yX12_isBlack cX12_isBlack 3 (some .boolean) 2 := ⟨kc_X12_isBlack, ii_X12, cn_X12.1, cn_X12.2.1, pd_21, plainFor_of_name cn_X12.2.2⟩
theorem kv_X12_isBlack : mKv yX12_isBlack := ⟨kn_X12_isBlack, lw_sl (q := (yX12_isBlack, 72)) 83 rfl⟩
theorem km_X12_apart : mKm yX12_apart cX12_apart 2 (some .int) 1 := ⟨kc_X12_apart, ii_X12, cn_X12.1, cn_X12.2.1, pd_13, plainFor_of_name cn_X12.2.2⟩
theorem kv_X12_apart : mKv yX12_apart := ⟨kn_X12_apart, lw_sl (q := (yX12_apart, 72)) 88 rfl⟩
theorem km_X12_on : mKm yX12_on cX12_on 2 (some .int) 1 := ⟨kc_X12_on, ii_X12, cn_X12.1, cn_X12.2.1, pd_13, plainFor_of_name cn_X12.2.2⟩
theorem kv_X12_on : mKv yX12_on := ⟨kn_X12_on, lw_sl (q := (yX12_on, 72)) 89 rfl⟩
theorem km_X12_bias : mKm yX12_bias cX12_bias 2 (some .int) 1 := ⟨kc_X12_bias, ii_X12, cn_X12.1, cn_X12.2.1, pd_13, plainFor_of_name cn_X12.2.2⟩
theorem kv_X12_bias : mKv yX12_bias := ⟨kn_X12_bias, lw_sl (q := (yX12_bias, 72)) 98 rfl⟩
theorem km_X12_eye : mKm yX12_eye cX12_eye 5 (some .int) 3 := ⟨kc_X12_eye, ii_X12, cn_X12.1, cn_X12.2.1, pd_35, plainFor_of_name cn_X12.2.2⟩
theorem kv_X12_eye : mKv yX12_eye := ⟨kn_X12_eye, lw_sl (q := (yX12_eye, 72)) 87 rfl⟩
theorem km_X12_who : mKm yX12_who cX12_who 4 (some .int) 2 := ⟨kc_X12_who, ii_X12, cn_X12.1, cn_X12.2.1, pd_6, plainFor_of_name cn_X12.2.2⟩
theorem kv_X12_who : mKv yX12_who := ⟨kn_X12_who, lw_sl (q := (yX12_who, 72)) 86 rfl⟩
theorem km_X12_writesDown : mKm yX12_writesDown cX12_writesDown 4 none 2 := ⟨kc_X12_writesDown, ii_X12, cn_X12.1, cn_X12.2.1, pd_11, plainFor_of_name cn_X12.2.2⟩
theorem kv_X12_writesDown : mKv yX12_writesDown := ⟨kn_X12_writesDown, lw_sl (q := (yX12_writesDown, 72)) 97 rfl⟩
theorem km_X12_steers : mKm yX12_steers cX12_steers 7 none 2 := ⟨kc_X12_steers, ii_X12, cn_X12.1, cn_X12.2.1, pd_11, plainFor_of_name cn_X12.2.2⟩
theorem kv_X12_steers : mKv yX12_steers := ⟨kn_X12_steers, lw_sl (q := (yX12_steers, 72)) 94 rfl⟩
theorem km_X12_does : mKm yX12_does cX12_does 5 none 2 := ⟨kc_X12_does, ii_X12, cn_X12.1, cn_X12.2.1, pd_11, plainFor_of_name cn_X12.2.2⟩
theorem kv_X12_does : mKv yX12_does := ⟨kn_X12_does, lw_sl (q := (yX12_does, 72)) 93 rfl⟩
theorem km_X12_passes : mKm yX12_passes cX12_passes 4 none 2 := ⟨kc_X12_passes, ii_X12, cn_X12.1, cn_X12.2.1, pd_11, plainFor_of_name cn_X12.2.2⟩
theorem kv_X12_passes : mKv yX12_passes := ⟨kn_X12_passes, lw_sl (q := (yX12_passes, 72)) 92 rfl⟩
theorem km_X12_bits : mKm yX12_bits cX12_bits 3 (some .int) 1 := ⟨kc_X12_bits, ii_X12, cn_X12.1, cn_X12.2.1, pd_13, plainFor_of_name cn_X12.2.2⟩
theorem km_X12_isBox : mKm yX12_isBox cX12_isBox 2 (some .boolean) 1 := ⟨kc_X12_isBox, ii_X12, cn_X12.1, cn_X12.2.1, pd_14, plainFor_of_name cn_X12.2.2⟩
theorem kv_X12_isBox : mKv yX12_isBox := ⟨kn_X12_isBox, lw_sl (q := (yX12_isBox, 72)) 85 rfl⟩
theorem km_X12_has : mKm yX12_has cX12_has 4 (some .int) 1 := ⟨kc_X12_has, ii_X12, cn_X12.1, cn_X12.2.1, pd_13, plainFor_of_name cn_X12.2.2⟩
theorem kv_X12_has : mKv yX12_has := ⟨kn_X12_has, kz_X12_has⟩
theorem km_X12_letter : mKm yX12_letter cX12_letter 8 (some .int) 2 := ⟨kc_X12_letter, ii_X12, cn_X12.1, cn_X12.2.1, pd_6, plainFor_of_name cn_X12.2.2⟩
theorem kv_X12_letter : mKv yX12_letter := ⟨kn_X12_letter, kz_X12_letter⟩
theorem km_X12_cell : mKm yX12_cell cX12_cell 5 (some .int) 3 := ⟨kc_X12_cell, ii_X12, cn_X12.1, cn_X12.2.1, pd_35, plainFor_of_name cn_X12.2.2⟩
theorem kv_X12_cell : mKv yX12_cell := ⟨kn_X12_cell, kz_X12_cell⟩
theorem km_X12_box : mKm yX12_box cX12_box 3 (some .int) 2 := ⟨kc_X12_box, ii_X12, cn_X12.1, cn_X12.2.1, pd_6, plainFor_of_name cn_X12.2.2⟩
theorem kv_X12_box : mKv yX12_box := ⟨kn_X12_box, kz_X12_box⟩
theorem km_X12_sees : mKm yX12_sees cX12_sees 3 (some .int) 2 := ⟨kc_X12_sees, ii_X12, cn_X12.1, cn_X12.2.1, pd_6, plainFor_of_name cn_X12.2.2⟩
theorem kv_X12_sees : mKv yX12_sees := ⟨kn_X12_sees, kz_X12_sees⟩
theorem km_X12_isAhead : mKm yX12_isAhead cX12_isAhead 4 (some .boolean) 3 := ⟨kc_X12_isAhead, ii_X12, cn_X12.1, cn_X12.2.1, pd_27, plainFor_of_name cn_X12.2.2⟩
theorem kv_X12_isAhead : mKv yX12_isAhead := ⟨kn_X12_isAhead, lw_sl (q := (yX12_isAhead, 72)) 91 rfl⟩
theorem km_X12_later : mKm yX12_later cX12_later 6 (some .int) 3 := ⟨kc_X12_later, ii_X12, cn_X12.1, cn_X12.2.1, pd_35, plainFor_of_name cn_X12.2.2⟩
theorem kv_X12_later : mKv yX12_later := ⟨kn_X12_later, kz_X12_later⟩
theorem km_X12_round : mKm yX12_round cX12_round 3 (some .int) 1 := ⟨kc_X12_round, ii_X12, cn_X12.1, cn_X12.2.1, pd_13, plainFor_of_name cn_X12.2.2⟩
theorem kv_X12_round : mKv yX12_round := ⟨kn_X12_round, kz_X12_round⟩
theorem km_X12_loses : mKm yX12_loses cX12_loses 4 (some .int) 2 := ⟨kc_X12_loses, ii_X12, cn_X12.1, cn_X12.2.1, pd_6, plainFor_of_name cn_X12.2.2⟩
theorem kv_X12_loses : mKv yX12_loses := ⟨kn_X12_loses, kz_X12_loses⟩
theorem km_X12_jam : mKm yX12_jam cX12_jam 2 (some .int) 0 := ⟨kc_X12_jam, ii_X12, cn_X12.1, cn_X12.2.1, pd_10, plainFor_of_name cn_X12.2.2⟩
theorem kv_X12_jam : mKv yX12_jam := ⟨kn_X12_jam, kz_X12_jam⟩
theorem km_X12_away : mKm yX12_away cX12_away 4 (some .int) 2 := ⟨kc_X12_away, ii_X12, cn_X12.1, cn_X12.2.1, pd_6, plainFor_of_name cn_X12.2.2⟩
theorem km_X12_gap : mKm yX12_gap cX12_gap 7 (some .int) 3 := ⟨kc_X12_gap, ii_X12, cn_X12.1, cn_X12.2.1, pd_35, plainFor_of_name cn_X12.2.2⟩
theorem kv_X12_gap : mKv yX12_gap := ⟨kn_X12_gap, kz_X12_gap⟩
theorem km_X12_tuned : mKm yX12_tuned cX12_tuned 9 (some .int) 3 := ⟨kc_X12_tuned, ii_X12, cn_X12.1, cn_X12.2.1, pd_35, plainFor_of_name cn_X12.2.2⟩
theorem kv_X12_tuned : mKv yX12_tuned := ⟨kn_X12_tuned, kz_X12_tuned⟩
theorem km_X12_moves : mKm yX12_moves cX12_moves 4 none 3 := ⟨kc_X12_moves, ii_X12, cn_X12.1, cn_X12.2.1, pd_22, plainFor_of_name cn_X12.2.2⟩
theorem kv_X12_moves : mKv yX12_moves := ⟨kn_X12_moves, lw_sl (q := (yX12_moves, 72)) 99 rfl⟩
theorem km_X12_found : mKm yX12_found cX12_found 5 (some .int) 1 := ⟨kc_X12_found, ii_X12, cn_X12.1, cn_X12.2.1, pd_13, plainFor_of_name cn_X12.2.2⟩
theorem kv_X12_found : mKv yX12_found := ⟨kn_X12_found, kz_X12_found⟩
theorem km_X12_spaced : mKm yX12_spaced cX12_spaced 6 (some .int) 1 := ⟨kc_X12_spaced, ii_X12, cn_X12.1, cn_X12.2.1, pd_13, plainFor_of_name cn_X12.2.2⟩
theorem kv_X12_spaced : mKv yX12_spaced := ⟨kn_X12_spaced, kz_X12_spaced⟩
theorem km_X12_bright : mKm yX12_bright cX12_bright 5 (some .int) 1 := ⟨kc_X12_bright, ii_X12, cn_X12.1, cn_X12.2.1, pd_13, plainFor_of_name cn_X12.2.2⟩
theorem kv_X12_bright : mKv yX12_bright := ⟨kn_X12_bright, kz_X12_bright⟩
theorem km_X12_track : mKm yX12_track cX12_track 4 (some .int) 0 := ⟨kc_X12_track, ii_X12, cn_X12.1, cn_X12.2.1, pd_10, plainFor_of_name cn_X12.2.2⟩
theorem kv_X12_track : mKv yX12_track := ⟨kn_X12_track, kz_X12_track⟩
theorem km_X12_walks : mKm yX12_walks cX12_walks 4 none 2 := ⟨kc_X12_walks, ii_X12, cn_X12.1, cn_X12.2.1, pd_11, plainFor_of_name cn_X12.2.2⟩
theorem kv_X12_walks : mKv yX12_walks := ⟨kn_X12_walks, lw_sl (q := (yX12_walks, 72)) 100 rfl⟩
theorem km_X12_isTrack : mKm yX12_isTrack cX12_isTrack 3 (some .boolean) 1 := ⟨kc_X12_isTrack, ii_X12, cn_X12.1, cn_X12.2.1, pd_14, plainFor_of_name cn_X12.2.2⟩
theorem kv_X12_isTrack : mKv yX12_isTrack := ⟨kn_X12_isTrack, lw_sl (q := (yX12_isTrack, 72)) 101 rfl⟩
theorem km_X12_wheel : mKm yX12_wheel cX12_wheel 11 (some .int) 2 := ⟨kc_X12_wheel, ii_X12, cn_X12.1, cn_X12.2.1, pd_6, plainFor_of_name cn_X12.2.2⟩
theorem kv_X12_wheel : mKv yX12_wheel := ⟨kn_X12_wheel, kz_X12_wheel⟩
theorem km_X12_steps : mKm yX12_steps cX12_steps 4 (some .int) 1 := ⟨kc_X12_steps, ii_X12, cn_X12.1, cn_X12.2.1, pd_13, plainFor_of_name cn_X12.2.2⟩
theorem kv_X12_steps : mKv yX12_steps := ⟨kn_X12_steps, kz_X12_steps⟩
theorem km_X12_draw : mKm yX12_draw cX12_draw 2 (some .int) 1 := ⟨kc_X12_draw, ii_X12, cn_X12.1, cn_X12.2.1, pd_13, plainFor_of_name cn_X12.2.2⟩
theorem kv_X12_draw : mKv yX12_draw := ⟨kn_X12_draw, lw_sl (q := (yX12_draw, 72)) 103 rfl⟩
theorem km_X12_chance : mKm yX12_chance cX12_chance 5 (some .int) 1 := ⟨kc_X12_chance, ii_X12, cn_X12.1, cn_X12.2.1, pd_13, plainFor_of_name cn_X12.2.2⟩
theorem kv_X12_chance : mKv yX12_chance := ⟨kn_X12_chance, kz_X12_chance⟩
theorem km_X12_turn : mKm yX12_turn cX12_turn 3 (some .boolean) 2 := ⟨kc_X12_turn, ii_X12, cn_X12.1, cn_X12.2.1, pd_21, plainFor_of_name cn_X12.2.2⟩
theorem kv_X12_turn : mKv yX12_turn := ⟨kn_X12_turn, kz_X12_turn⟩
theorem km_X12_put_ : mKm yX12_put_ cX12_put_ 4 (some .boolean) 3 := ⟨kc_X12_put_, ii_X12, cn_X12.1, cn_X12.2.1, pd_27, plainFor_of_name cn_X12.2.2⟩
theorem kv_X12_put_ : mKv yX12_put_ := ⟨kn_X12_put_, kz_X12_put_⟩
theorem km_X12_shine : mKm yX12_shine cX12_shine 2 (some .boolean) 1 := ⟨kc_X12_shine, ii_X12, cn_X12.1, cn_X12.2.1, pd_14, plainFor_of_name cn_X12.2.2⟩
theorem kv_X12_shine : mKv yX12_shine := ⟨kn_X12_shine, kz_X12_shine⟩
theorem km_X12_seed : mKm yX12_seed cX12_seed 2 (some .boolean) 1 := ⟨kc_X12_seed, ii_X12, cn_X12.1, cn_X12.2.1, pd_14, plainFor_of_name cn_X12.2.2⟩
theorem kv_X12_seed : mKv yX12_seed := ⟨kn_X12_seed, kz_X12_seed⟩
theorem km_X12_kept : mKm yX12_kept cX12_kept 3 (some .int) 2 := ⟨kc_X12_kept, ii_X12, cn_X12.1, cn_X12.2.1, pd_6, plainFor_of_name cn_X12.2.2⟩
theorem kv_X12_kept : mKv yX12_kept := ⟨kn_X12_kept, kz_X12_kept⟩
theorem km_X12_writes : mKm yX12_writes cX12_writes 2 none 1 := ⟨kc_X12_writes, ii_X12, cn_X12.1, cn_X12.2.1, pd_9, plainFor_of_name cn_X12.2.2⟩
theorem kv_X12_writes : mKv yX12_writes := ⟨kn_X12_writes, lw_sl (q := (yX12_writes, 72)) 105 rfl⟩
theorem km_X12_writesTwo : mKm yX12_writesTwo cX12_writesTwo 2 none 1 := ⟨kc_X12_writesTwo, ii_X12, cn_X12.1, cn_X12.2.1, pd_9, plainFor_of_name cn_X12.2.2⟩
theorem kv_X12_writesTwo : mKv yX12_writesTwo := ⟨kn_X12_writesTwo, lw_sl (q := (yX12_writesTwo, 72)) 104 rfl⟩
theorem km_X12_image : mKm yX12_image cX12_image 3 (some .int) 0 := ⟨kc_X12_image, ii_X12, cn_X12.1, cn_X12.2.1, pd_10, plainFor_of_name cn_X12.2.2⟩
theorem kv_X12_image : mKv yX12_image := ⟨kn_X12_image, kz_X12_image⟩
theorem km_X12_octet : mKm yX12_octet cX12_octet 2 (some .int) 1 := ⟨kc_X12_octet, ii_X12, cn_X12.1, cn_X12.2.1, pd_13, plainFor_of_name cn_X12.2.2⟩
theorem kv_X12_octet : mKv yX12_octet := ⟨kn_X12_octet, kz_X12_octet⟩
theorem km_X12_twoBytes : mKm yX12_twoBytes cX12_twoBytes 2 (some .int) 1 := ⟨kc_X12_twoBytes, ii_X12, cn_X12.1, cn_X12.2.1, pd_13, plainFor_of_name cn_X12.2.2⟩
theorem kv_X12_twoBytes : mKv yX12_twoBytes := ⟨kn_X12_twoBytes, lw_sl (q := (yX12_twoBytes, 72)) 107 rfl⟩
theorem km_X12_boxOn : mKm yX12_boxOn cX12_boxOn 5 (some .boolean) 2 := ⟨kc_X12_boxOn, ii_X12, cn_X12.1, cn_X12.2.1, pd_21, plainFor_of_name cn_X12.2.2⟩
theorem kv_X12_boxOn : mKv yX12_boxOn := ⟨kn_X12_boxOn, lw_sl (q := (yX12_boxOn, 72)) 108 rfl⟩
theorem km_X12_comesOn : mKm yX12_comesOn cX12_comesOn 4 (some .boolean) 1 := ⟨kc_X12_comesOn, ii_X12, cn_X12.1, cn_X12.2.1, pd_14, plainFor_of_name cn_X12.2.2⟩
theorem kv_X12_comesOn : mKv yX12_comesOn := ⟨kn_X12_comesOn, lw_sl (q := (yX12_comesOn, 72)) 106 rfl⟩
theorem km_X12_on_ : mKm yX12_on_ cX12_on_ 2 (some .boolean) 0 := ⟨kc_X12_on_, ii_X12, cn_X12.1, cn_X12.2.1, pd_20, plainFor_of_name cn_X12.2.2⟩
theorem kv_X12_on_ : mKv yX12_on_ := ⟨kn_X12_on_, kz_X12_on_⟩
theorem km_J9_floorDiv_f86c9 : mKm yJ9_floorDiv_f86c9 cJ9_floorDiv_f86c9 6 (some .long) 2 := ⟨kc_J9_floorDiv_f86c9, ii_J9, cn_J9.1, cn_J9.2.1, pd_42, by decide +kernel⟩
theorem km_J9_floorMod_7cf53 : mKm yJ9_floorMod_7cf53 cJ9_floorMod_7cf53 3 (some .int) 2 := ⟨kc_J9_floorMod_7cf53, ii_J9, cn_J9.1, cn_J9.2.1, pd_6, by decide +kernel⟩
theorem km_J9_floorMod_f86c9 : mKm yJ9_floorMod_f86c9 cJ9_floorMod_f86c9 6 (some .long) 2 := ⟨kc_J9_floorMod_f86c9, ii_J9, cn_J9.1, cn_J9.2.1, pd_42, by decide +kernel⟩
theorem km_J9_abs_0f7a4 : mKm yJ9_abs_0f7a4 cJ9_abs_0f7a4 1 (some .int) 1 := ⟨kc_J9_abs_0f7a4, ii_J9, cn_J9.1, cn_J9.2.1, pd_13, by decide +kernel⟩
theorem km_J9_max_7cf53 : mKm yJ9_max_7cf53 cJ9_max_7cf53 2 (some .int) 2 := ⟨kc_J9_max_7cf53, ii_J9, cn_J9.1, cn_J9.2.1, pd_6, by decide +kernel⟩
theorem km_J9_max_f86c9 : mKm yJ9_max_f86c9 cJ9_max_f86c9 4 (some .long) 2 := ⟨kc_J9_max_f86c9, ii_J9, cn_J9.1, cn_J9.2.1, pd_42, by decide +kernel⟩
theorem km_J9_min_7cf53 : mKm yJ9_min_7cf53 cJ9_min_7cf53 2 (some .int) 2 := ⟨kc_J9_min_7cf53, ii_J9, cn_J9.1, cn_J9.2.1, pd_6, by decide +kernel⟩
theorem km_J9_min_f86c9 : mKm yJ9_min_f86c9 cJ9_min_f86c9 4 (some .long) 2 := ⟨kc_J9_min_f86c9, ii_J9, cn_J9.1, cn_J9.2.1, pd_42, by decide +kernel⟩
theorem km_J7_fill_53178 : mKm yJ7_fill_53178 cJ7_fill_53178 4 none 2 := ⟨kc_J7_fill_53178, ii_J7, cn_J7.1, cn_J7.2.1, pd_45, plainFor_of_name cn_J7.2.2⟩
theorem ka_ini : Cond.initialized "java/lang/System" ∈ lw_g := ii_J10
