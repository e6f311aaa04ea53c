theorem lwm_1 {w : Cond} (h : w ∈ tables_1_1) : w ∈ lw_tbl := List.mem_append_right _ (show w ∈ tables_1 from List.mem_append_left _ h)
theorem lwm_2 {w : Cond} (h : w ∈ tables_1_2) : w ∈ lw_tbl := List.mem_append_right _ (show w ∈ tables_1 from List.mem_append_right _ (List.mem_append_left _ h))
theorem lwm_3 {w : Cond} (h : w ∈ tables_1_3) : w ∈ lw_tbl := List.mem_append_right _ (show w ∈ tables_1 from List.mem_append_right _ (List.mem_append_right _ (List.mem_append_left _ h)))
theorem lwm_4 {w : Cond} (h : w ∈ tables_1_4) : w ∈ lw_tbl := List.mem_append_right _ (show w ∈ tables_1 from List.mem_append_right _ (List.mem_append_right _ (List.mem_append_right _ (h))))
theorem u_all {C : String} {T : u_T} {N : Nat} (h : ∀ k, k < N → u_lay C T k ∈ gtbl) : ∀ w ∈ u_ws C T N, w ∈ gtbl := by
  intro w hw
  obtain ⟨k, hk, rfl⟩ := List.mem_map.mp hw
  exact h k (List.mem_range.mp hk)
theorem ly_X0_0 : u_lay RX0 TX0 0 ∈ gtbl := gt_1 (List.mem_of_getElem? (i := 164) (by decide +kernel)) (by decide +kernel)
theorem ly_X0_1 : u_lay RX0 TX0 1 ∈ gtbl := gt_1 (List.mem_of_getElem? (i := 166) (by decide +kernel)) (by decide +kernel)
theorem ly_X0_2 : u_lay RX0 TX0 2 ∈ gtbl := gt_1 (List.mem_of_getElem? (i := 168) (by decide +kernel)) (by decide +kernel)
theorem iw_X0 : ∀ w ∈ u_ws RX0 TX0 3, w ∈ gtbl := u_all (lt_s (lt_s (lt_s (lt_0) ly_X0_0) ly_X0_1) ly_X0_2)
theorem ly_X1_0 : u_lay RX1 TX1 0 ∈ gtbl := gt_1 (List.mem_of_getElem? (i := 90) (by decide +kernel)) (by decide +kernel)
theorem iw_X1 : ∀ w ∈ u_ws RX1 TX1 1, w ∈ gtbl := u_all (lt_s (lt_0) ly_X1_0)
theorem ly_X2_0 : u_lay RX2 TX2 0 ∈ gtbl := gt_1 (List.mem_of_getElem? (i := 97) (by decide +kernel)) (by decide +kernel)
theorem ly_X2_1 : u_lay RX2 TX2 1 ∈ gtbl := gt_1 (List.mem_of_getElem? (i := 99) (by decide +kernel)) (by decide +kernel)
theorem iw_X2 : ∀ w ∈ u_ws RX2 TX2 2, w ∈ gtbl := u_all (lt_s (lt_s (lt_0) ly_X2_0) ly_X2_1)
theorem ly_X3_0 : u_lay RX3 TX3 0 ∈ gtbl := gt_1 (List.mem_of_getElem? (i := 185) (by decide +kernel)) (by decide +kernel)
theorem ly_X3_1 : u_lay RX3 TX3 1 ∈ gtbl := gt_1 (List.mem_of_getElem? (i := 187) (by decide +kernel)) (by decide +kernel)
theorem ly_X3_2 : u_lay RX3 TX3 2 ∈ gtbl := gt_1 (List.mem_of_getElem? (i := 189) (by decide +kernel)) (by decide +kernel)
theorem ly_X3_3 : u_lay RX3 TX3 3 ∈ gtbl := gt_1 (List.mem_of_getElem? (i := 191) (by decide +kernel)) (by decide +kernel)
theorem ly_X3_4 : u_lay RX3 TX3 4 ∈ gtbl := gt_1 (List.mem_of_getElem? (i := 193) (by decide +kernel)) (by decide +kernel)
theorem ly_X3_5 : u_lay RX3 TX3 5 ∈ gtbl := gt_1 (List.mem_of_getElem? (i := 195) (by decide +kernel)) (by decide +kernel)
theorem ly_X3_6 : u_lay RX3 TX3 6 ∈ gtbl := gt_1 (List.mem_of_getElem? (i := 197) (by decide +kernel)) (by decide +kernel)
theorem ly_X3_7 : u_lay RX3 TX3 7 ∈ gtbl := gt_1 (List.mem_of_getElem? (i := 199) (by decide +kernel)) (by decide +kernel)
theorem iw_X3 : ∀ w ∈ u_ws RX3 TX3 8, w ∈ gtbl := u_all (lt_s (lt_s (lt_s (lt_s (lt_s (lt_s (lt_s (lt_s (lt_0) ly_X3_0) ly_X3_1) ly_X3_2) ly_X3_3) ly_X3_4) ly_X3_5) ly_X3_6) ly_X3_7)
theorem ly_X4_0 : u_lay RX4 TX4 0 ∈ gtbl := gt_1 (List.mem_of_getElem? (i := 123) (by decide +kernel)) (by decide +kernel)
theorem ly_X4_1 : u_lay RX4 TX4 1 ∈ gtbl := gt_1 (List.mem_of_getElem? (i := 125) (by decide +kernel)) (by decide +kernel)
theorem ly_X4_2 : u_lay RX4 TX4 2 ∈ gtbl := gt_1 (List.mem_of_getElem? (i := 127) (by decide +kernel)) (by decide +kernel)
theorem ly_X4_3 : u_lay RX4 TX4 3 ∈ gtbl := gt_1 (List.mem_of_getElem? (i := 129) (by decide +kernel)) (by decide +kernel)
theorem ly_X4_4 : u_lay RX4 TX4 4 ∈ gtbl := gt_1 (List.mem_of_getElem? (i := 131) (by decide +kernel)) (by decide +kernel)
theorem ly_X4_5 : u_lay RX4 TX4 5 ∈ gtbl := gt_1 (List.mem_of_getElem? (i := 133) (by decide +kernel)) (by decide +kernel)
theorem ly_X4_6 : u_lay RX4 TX4 6 ∈ gtbl := gt_1 (List.mem_of_getElem? (i := 135) (by decide +kernel)) (by decide +kernel)
theorem ly_X4_7 : u_lay RX4 TX4 7 ∈ gtbl := gt_1 (List.mem_of_getElem? (i := 137) (by decide +kernel)) (by decide +kernel)
theorem ly_X4_8 : u_lay RX4 TX4 8 ∈ gtbl := gt_1 (List.mem_of_getElem? (i := 139) (by decide +kernel)) (by decide +kernel)
theorem iw_X4 : ∀ w ∈ u_ws RX4 TX4 9, w ∈ gtbl := u_all (lt_s (lt_s (lt_s (lt_s (lt_s (lt_s (lt_s (lt_s (lt_s (lt_0) ly_X4_0) ly_X4_1) ly_X4_2) ly_X4_3) ly_X4_4) ly_X4_5) ly_X4_6) ly_X4_7) ly_X4_8)
theorem ly_X6_0 : u_lay RX6 TX6 0 ∈ gtbl := gt_2 (List.mem_of_getElem? (i := 23) (by decide +kernel)) (by decide +kernel)
theorem ly_X6_1 : u_lay RX6 TX6 1 ∈ gtbl := gt_2 (List.mem_of_getElem? (i := 25) (by decide +kernel)) (by decide +kernel)
theorem ly_X6_2 : u_lay RX6 TX6 2 ∈ gtbl := gt_2 (List.mem_of_getElem? (i := 27) (by decide +kernel)) (by decide +kernel)
theorem ly_X6_3 : u_lay RX6 TX6 3 ∈ gtbl := gt_2 (List.mem_of_getElem? (i := 29) (by decide +kernel)) (by decide +kernel)
theorem ly_X6_4 : u_lay RX6 TX6 4 ∈ gtbl := gt_2 (List.mem_of_getElem? (i := 31) (by decide +kernel)) (by decide +kernel)
theorem ly_X6_5 : u_lay RX6 TX6 5 ∈ gtbl := gt_2 (List.mem_of_getElem? (i := 33) (by decide +kernel)) (by decide +kernel)
theorem ly_X6_6 : u_lay RX6 TX6 6 ∈ gtbl := gt_2 (List.mem_of_getElem? (i := 35) (by decide +kernel)) (by decide +kernel)
theorem iw_X6 : ∀ w ∈ u_ws RX6 TX6 7, w ∈ gtbl := u_all (lt_s (lt_s (lt_s (lt_s (lt_s (lt_s (lt_s (lt_0) ly_X6_0) ly_X6_1) ly_X6_2) ly_X6_3) ly_X6_4) ly_X6_5) ly_X6_6)
theorem ly_X7_0 : u_lay RX7 TX7 0 ∈ gtbl := gt_1 (List.mem_of_getElem? (i := 150) (by decide +kernel)) (by decide +kernel)
theorem ly_X7_1 : u_lay RX7 TX7 1 ∈ gtbl := gt_1 (List.mem_of_getElem? (i := 152) (by decide +kernel)) (by decide +kernel)
theorem iw_X7 : ∀ w ∈ u_ws RX7 TX7 2, w ∈ gtbl := u_all (lt_s (lt_s (lt_0) ly_X7_0) ly_X7_1)
theorem ly_X8_0 : u_lay RX8 TX8 0 ∈ gtbl := gt_1 (List.mem_of_getElem? (i := 32) (by decide +kernel)) (by decide +kernel)
theorem ly_X8_1 : u_lay RX8 TX8 1 ∈ gtbl := gt_1 (List.mem_of_getElem? (i := 34) (by decide +kernel)) (by decide +kernel)
theorem ly_X8_2 : u_lay RX8 TX8 2 ∈ gtbl := gt_1 (List.mem_of_getElem? (i := 36) (by decide +kernel)) (by decide +kernel)
theorem iw_X8 : ∀ w ∈ u_ws RX8 TX8 3, w ∈ gtbl := u_all (lt_s (lt_s (lt_s (lt_0) ly_X8_0) ly_X8_1) ly_X8_2)
theorem ly_X9_0 : u_lay RX9 TX9 0 ∈ gtbl := gt_1 (List.mem_of_getElem? (i := 223) (by decide +kernel)) (by decide +kernel)
theorem ly_X9_1 : u_lay RX9 TX9 1 ∈ gtbl := gt_1 (List.mem_of_getElem? (i := 225) (by decide +kernel)) (by decide +kernel)
theorem ly_X9_2 : u_lay RX9 TX9 2 ∈ gtbl := gt_1 (List.mem_of_getElem? (i := 227) (by decide +kernel)) (by decide +kernel)
theorem ly_X9_3 : u_lay RX9 TX9 3 ∈ gtbl := gt_1 (List.mem_of_getElem? (i := 229) (by decide +kernel)) (by decide +kernel)
theorem ly_X9_4 : u_lay RX9 TX9 4 ∈ gtbl := gt_1 (List.mem_of_getElem? (i := 231) (by decide +kernel)) (by decide +kernel)
theorem ly_X9_5 : u_lay RX9 TX9 5 ∈ gtbl := gt_1 (List.mem_of_getElem? (i := 233) (by decide +kernel)) (by decide +kernel)
theorem ly_X9_6 : u_lay RX9 TX9 6 ∈ gtbl := gt_1 (List.mem_of_getElem? (i := 235) (by decide +kernel)) (by decide +kernel)
theorem ly_X9_7 : u_lay RX9 TX9 7 ∈ gtbl := gt_1 (List.mem_of_getElem? (i := 237) (by decide +kernel)) (by decide +kernel)
theorem ly_X9_8 : u_lay RX9 TX9 8 ∈ gtbl := gt_1 (List.mem_of_getElem? (i := 239) (by decide +kernel)) (by decide +kernel)
theorem ly_X9_9 : u_lay RX9 TX9 9 ∈ gtbl := gt_2 (List.mem_of_getElem? (i := 1) (by decide +kernel)) (by decide +kernel)
theorem ly_X9_10 : u_lay RX9 TX9 10 ∈ gtbl := gt_2 (List.mem_of_getElem? (i := 3) (by decide +kernel)) (by decide +kernel)
theorem ly_X9_11 : u_lay RX9 TX9 11 ∈ gtbl := gt_2 (List.mem_of_getElem? (i := 5) (by decide +kernel)) (by decide +kernel)
theorem ly_X9_12 : u_lay RX9 TX9 12 ∈ gtbl := gt_2 (List.mem_of_getElem? (i := 7) (by decide +kernel)) (by decide +kernel)
theorem iw_X9 : ∀ w ∈ u_ws RX9 TX9 13, w ∈ gtbl := u_all (lt_s (lt_s (lt_s (lt_s (lt_s (lt_s (lt_s (lt_s (lt_s (lt_s (lt_s (lt_s (lt_s (lt_0) ly_X9_0) ly_X9_1) ly_X9_2) ly_X9_3) ly_X9_4) ly_X9_5) ly_X9_6) ly_X9_7) ly_X9_8) ly_X9_9) ly_X9_10) ly_X9_11) ly_X9_12)
theorem ly_X10_0 : u_lay RX10 TX10 0 ∈ gtbl := gt_1 (List.mem_of_getElem? (i := 53) (by decide +kernel)) (by decide +kernel)
theorem ly_X10_1 : u_lay RX10 TX10 1 ∈ gtbl := gt_1 (List.mem_of_getElem? (i := 55) (by decide +kernel)) (by decide +kernel)
theorem ly_X10_2 : u_lay RX10 TX10 2 ∈ gtbl := gt_1 (List.mem_of_getElem? (i := 57) (by decide +kernel)) (by decide +kernel)
theorem ly_X10_3 : u_lay RX10 TX10 3 ∈ gtbl := gt_1 (List.mem_of_getElem? (i := 59) (by decide +kernel)) (by decide +kernel)
theorem ly_X10_4 : u_lay RX10 TX10 4 ∈ gtbl := gt_1 (List.mem_of_getElem? (i := 61) (by decide +kernel)) (by decide +kernel)
theorem ly_X10_5 : u_lay RX10 TX10 5 ∈ gtbl := gt_1 (List.mem_of_getElem? (i := 63) (by decide +kernel)) (by decide +kernel)
theorem iw_X10 : ∀ w ∈ u_ws RX10 TX10 6, w ∈ gtbl := u_all (lt_s (lt_s (lt_s (lt_s (lt_s (lt_s (lt_0) ly_X10_0) ly_X10_1) ly_X10_2) ly_X10_3) ly_X10_4) ly_X10_5)
theorem ly_X11_0 : u_lay RX11 TX11 0 ∈ gtbl := gt_2 (List.mem_of_getElem? (i := 52) (by decide +kernel)) (by decide +kernel)
theorem ly_X11_1 : u_lay RX11 TX11 1 ∈ gtbl := gt_2 (List.mem_of_getElem? (i := 54) (by decide +kernel)) (by decide +kernel)
theorem ly_X11_2 : u_lay RX11 TX11 2 ∈ gtbl := gt_2 (List.mem_of_getElem? (i := 56) (by decide +kernel)) (by decide +kernel)
theorem ly_X11_3 : u_lay RX11 TX11 3 ∈ gtbl := gt_2 (List.mem_of_getElem? (i := 58) (by decide +kernel)) (by decide +kernel)
theorem ly_X11_4 : u_lay RX11 TX11 4 ∈ gtbl := gt_2 (List.mem_of_getElem? (i := 60) (by decide +kernel)) (by decide +kernel)
theorem ly_X11_5 : u_lay RX11 TX11 5 ∈ gtbl := gt_2 (List.mem_of_getElem? (i := 62) (by decide +kernel)) (by decide +kernel)
theorem ly_X11_6 : u_lay RX11 TX11 6 ∈ gtbl := gt_2 (List.mem_of_getElem? (i := 64) (by decide +kernel)) (by decide +kernel)
theorem ly_X11_7 : u_lay RX11 TX11 7 ∈ gtbl := gt_2 (List.mem_of_getElem? (i := 66) (by decide +kernel)) (by decide +kernel)
theorem ly_X11_8 : u_lay RX11 TX11 8 ∈ gtbl := gt_2 (List.mem_of_getElem? (i := 68) (by decide +kernel)) (by decide +kernel)
theorem ly_X11_9 : u_lay RX11 TX11 9 ∈ gtbl := gt_2 (List.mem_of_getElem? (i := 70) (by decide +kernel)) (by decide +kernel)
theorem ly_X11_10 : u_lay RX11 TX11 10 ∈ gtbl := gt_2 (List.mem_of_getElem? (i := 72) (by decide +kernel)) (by decide +kernel)
theorem ly_X11_11 : u_lay RX11 TX11 11 ∈ gtbl := gt_2 (List.mem_of_getElem? (i := 74) (by decide +kernel)) (by decide +kernel)
theorem ly_X11_12 : u_lay RX11 TX11 12 ∈ gtbl := gt_2 (List.mem_of_getElem? (i := 76) (by decide +kernel)) (by decide +kernel)
theorem ly_X11_13 : u_lay RX11 TX11 13 ∈ gtbl := gt_2 (List.mem_of_getElem? (i := 78) (by decide +kernel)) (by decide +kernel)
theorem iw_X11 : ∀ w ∈ u_ws RX11 TX11 14, w ∈ gtbl := u_all (lt_s (lt_s (lt_s (lt_s (lt_s (lt_s (lt_s (lt_s (lt_s (lt_s (lt_s (lt_s (lt_s (lt_s (lt_0) ly_X11_0) ly_X11_1) ly_X11_2) ly_X11_3) ly_X11_4) ly_X11_5) ly_X11_6) ly_X11_7) ly_X11_8) ly_X11_9) ly_X11_10) ly_X11_11) ly_X11_12) ly_X11_13)
theorem fl_X8_11 : FL RX8 11 7 0 (.array .int) true := ⟨_, _, _, tyX8, rfl, by decide, iw_X8, gt_1 (List.mem_of_getElem? (i := 29) (by decide +kernel)) (by decide +kernel), rfl, by decide +kernel, tyX8_ok, nmX8, fun _ => rfl⟩
theorem fl_X8_15 : FL RX8 15 7 1 (.array .int) true := ⟨_, _, _, tyX8, rfl, by decide, iw_X8, gt_1 (List.mem_of_getElem? (i := 30) (by decide +kernel)) (by decide +kernel), rfl, by decide +kernel, tyX8_ok, nmX8, fun _ => rfl⟩
theorem fl_X8_18 : FL RX8 18 7 2 .int false := ⟨_, _, _, tyX8, rfl, by decide, iw_X8, gt_1 (List.mem_of_getElem? (i := 31) (by decide +kernel)) (by decide +kernel), rfl, by decide +kernel, tyX8_ok, nmX8, fun _ => rfl⟩
theorem fl_X10_9 : FL RX10 9 9 0 (.array .int) true := ⟨_, _, _, tyX10, rfl, by decide, iw_X10, gt_1 (List.mem_of_getElem? (i := 47) (by decide +kernel)) (by decide +kernel), rfl, by decide +kernel, tyX10_ok, nmX10, fun _ => rfl⟩
theorem fl_X10_17 : FL RX10 17 9 1 (.array .int) true := ⟨_, _, _, tyX10, rfl, by decide, iw_X10, gt_1 (List.mem_of_getElem? (i := 48) (by decide +kernel)) (by decide +kernel), rfl, by decide +kernel, tyX10_ok, nmX10, fun _ => rfl⟩
theorem fl_X10_20 : FL RX10 20 9 2 .int false := ⟨_, _, _, tyX10, rfl, by decide, iw_X10, gt_1 (List.mem_of_getElem? (i := 49) (by decide +kernel)) (by decide +kernel), rfl, by decide +kernel, tyX10_ok, nmX10, fun _ => rfl⟩
theorem fl_X10_24 : FL RX10 24 9 3 .int false := ⟨_, _, _, tyX10, rfl, by decide, iw_X10, gt_1 (List.mem_of_getElem? (i := 50) (by decide +kernel)) (by decide +kernel), rfl, by decide +kernel, tyX10_ok, nmX10, fun _ => rfl⟩
theorem fl_X10_27 : FL RX10 27 9 4 .int false := ⟨_, _, _, tyX10, rfl, by decide, iw_X10, gt_1 (List.mem_of_getElem? (i := 51) (by decide +kernel)) (by decide +kernel), rfl, by decide +kernel, tyX10_ok, nmX10, fun _ => rfl⟩
theorem fl_X10_30 : FL RX10 30 9 5 .int false := ⟨_, _, _, tyX10, rfl, by decide, iw_X10, gt_1 (List.mem_of_getElem? (i := 52) (by decide +kernel)) (by decide +kernel), rfl, by decide +kernel, tyX10_ok, nmX10, fun _ => rfl⟩
theorem fl_X1_9 : FL RX1 9 1 0 (.array .int) true := ⟨_, _, _, tyX1, rfl, by decide, iw_X1, gt_1 (List.mem_of_getElem? (i := 89) (by decide +kernel)) (by decide +kernel), rfl, by decide +kernel, tyX1_ok, nmX1, fun _ => rfl⟩
theorem fl_X2_22 : FL RX2 22 2 0 (.array (.object "HillLand$Column")) true := ⟨_, _, _, tyX2, rfl, by decide, iw_X2, gt_1 (List.mem_of_getElem? (i := 95) (by decide +kernel)) (by decide +kernel), rfl, by decide +kernel, tyX2_ok, nmX2, fun _ => rfl⟩
theorem fl_X2_10 : FL RX2 10 2 1 (.object "HillLand$Column") true := ⟨_, _, _, tyX2, rfl, by decide, iw_X2, gt_1 (List.mem_of_getElem? (i := 96) (by decide +kernel)) (by decide +kernel), rfl, by decide +kernel, tyX2_ok, nmX2, fun _ => rfl⟩
theorem fl_X4_12 : FL RX4 12 4 0 (.object "HillLand$Tale") true := ⟨_, _, _, tyX4, rfl, by decide, iw_X4, gt_1 (List.mem_of_getElem? (i := 114) (by decide +kernel)) (by decide +kernel), rfl, by decide +kernel, tyX4_ok, nmX4, fun _ => rfl⟩
theorem fl_X4_23 : FL RX4 23 4 1 (.object "HillLand$Columns") true := ⟨_, _, _, tyX4, rfl, by decide, iw_X4, gt_1 (List.mem_of_getElem? (i := 115) (by decide +kernel)) (by decide +kernel), rfl, by decide +kernel, tyX4_ok, nmX4, fun _ => rfl⟩
theorem fl_X4_27 : FL RX4 27 4 2 (.array .int) true := ⟨_, _, _, tyX4, rfl, by decide, iw_X4, gt_1 (List.mem_of_getElem? (i := 116) (by decide +kernel)) (by decide +kernel), rfl, by decide +kernel, tyX4_ok, nmX4, fun _ => rfl⟩
theorem fl_X4_31 : FL RX4 31 4 3 (.array .int) true := ⟨_, _, _, tyX4, rfl, by decide, iw_X4, gt_1 (List.mem_of_getElem? (i := 117) (by decide +kernel)) (by decide +kernel), rfl, by decide +kernel, tyX4_ok, nmX4, fun _ => rfl⟩
theorem fl_X4_34 : FL RX4 34 4 4 (.array .int) true := ⟨_, _, _, tyX4, rfl, by decide, iw_X4, gt_1 (List.mem_of_getElem? (i := 118) (by decide +kernel)) (by decide +kernel), rfl, by decide +kernel, tyX4_ok, nmX4, fun _ => rfl⟩
theorem fl_X4_37 : FL RX4 37 4 5 (.array .int) true := ⟨_, _, _, tyX4, rfl, by decide, iw_X4, gt_1 (List.mem_of_getElem? (i := 119) (by decide +kernel)) (by decide +kernel), rfl, by decide +kernel, tyX4_ok, nmX4, fun _ => rfl⟩
theorem fl_X4_40 : FL RX4 40 4 6 .int false := ⟨_, _, _, tyX4, rfl, by decide, iw_X4, gt_1 (List.mem_of_getElem? (i := 120) (by decide +kernel)) (by decide +kernel), rfl, by decide +kernel, tyX4_ok, nmX4, fun _ => rfl⟩
theorem fl_X4_44 : FL RX4 44 4 7 .int false := ⟨_, _, _, tyX4, rfl, by decide, iw_X4, gt_1 (List.mem_of_getElem? (i := 121) (by decide +kernel)) (by decide +kernel), rfl, by decide +kernel, tyX4_ok, nmX4, fun _ => rfl⟩
theorem fl_X4_47 : FL RX4 47 4 8 .boolean false := ⟨_, _, _, tyX4, rfl, by decide, iw_X4, gt_1 (List.mem_of_getElem? (i := 122) (by decide +kernel)) (by decide +kernel), rfl, by decide +kernel, tyX4_ok, nmX4, fun _ => rfl⟩
theorem fl_X7_11 : FL RX7 11 6 0 (.array .int) true := ⟨_, _, _, tyX7, rfl, by decide, iw_X7, gt_1 (List.mem_of_getElem? (i := 148) (by decide +kernel)) (by decide +kernel), rfl, by decide +kernel, tyX7_ok, nmX7, fun _ => rfl⟩
theorem fl_X7_15 : FL RX7 15 6 1 .int false := ⟨_, _, _, tyX7, rfl, by decide, iw_X7, gt_1 (List.mem_of_getElem? (i := 149) (by decide +kernel)) (by decide +kernel), rfl, by decide +kernel, tyX7_ok, nmX7, fun _ => rfl⟩
theorem fl_X0_9 : FL RX0 9 0 0 (.array .int) true := ⟨_, _, _, tyX0, rfl, by decide, iw_X0, gt_1 (List.mem_of_getElem? (i := 161) (by decide +kernel)) (by decide +kernel), rfl, by decide +kernel, tyX0_ok, nmX0, fun _ => rfl⟩
theorem fl_X0_15 : FL RX0 15 0 1 (.array .int) true := ⟨_, _, _, tyX0, rfl, by decide, iw_X0, gt_1 (List.mem_of_getElem? (i := 162) (by decide +kernel)) (by decide +kernel), rfl, by decide +kernel, tyX0_ok, nmX0, fun _ => rfl⟩
theorem fl_X0_18 : FL RX0 18 0 2 .int false := ⟨_, _, _, tyX0, rfl, by decide, iw_X0, gt_1 (List.mem_of_getElem? (i := 163) (by decide +kernel)) (by decide +kernel), rfl, by decide +kernel, tyX0_ok, nmX0, fun _ => rfl⟩
theorem fl_X3_9 : FL RX3 9 3 0 (.array .int) true := ⟨_, _, _, tyX3, rfl, by decide, iw_X3, gt_1 (List.mem_of_getElem? (i := 177) (by decide +kernel)) (by decide +kernel), rfl, by decide +kernel, tyX3_ok, nmX3, fun _ => rfl⟩
theorem fl_X3_15 : FL RX3 15 3 1 (.array .int) true := ⟨_, _, _, tyX3, rfl, by decide, iw_X3, gt_1 (List.mem_of_getElem? (i := 178) (by decide +kernel)) (by decide +kernel), rfl, by decide +kernel, tyX3_ok, nmX3, fun _ => rfl⟩
theorem fl_X3_18 : FL RX3 18 3 2 (.array .int) true := ⟨_, _, _, tyX3, rfl, by decide, iw_X3, gt_1 (List.mem_of_getElem? (i := 179) (by decide +kernel)) (by decide +kernel), rfl, by decide +kernel, tyX3_ok, nmX3, fun _ => rfl⟩
theorem fl_X3_21 : FL RX3 21 3 3 (.array .int) true := ⟨_, _, _, tyX3, rfl, by decide, iw_X3, gt_1 (List.mem_of_getElem? (i := 180) (by decide +kernel)) (by decide +kernel), rfl, by decide +kernel, tyX3_ok, nmX3, fun _ => rfl⟩
theorem fl_X3_24 : FL RX3 24 3 4 (.array .int) true := ⟨_, _, _, tyX3, rfl, by decide, iw_X3, gt_1 (List.mem_of_getElem? (i := 181) (by decide +kernel)) (by decide +kernel), rfl, by decide +kernel, tyX3_ok, nmX3, fun _ => rfl⟩
theorem fl_X3_27 : FL RX3 27 3 5 (.array .int) true := ⟨_, _, _, tyX3, rfl, by decide, iw_X3, gt_1 (List.mem_of_getElem? (i := 182) (by decide +kernel)) (by decide +kernel), rfl, by decide +kernel, tyX3_ok, nmX3, fun _ => rfl⟩
theorem fl_X3_30 : FL RX3 30 3 6 .int false := ⟨_, _, _, tyX3, rfl, by decide, iw_X3, gt_1 (List.mem_of_getElem? (i := 183) (by decide +kernel)) (by decide +kernel), rfl, by decide +kernel, tyX3_ok, nmX3, fun _ => rfl⟩
theorem fl_X3_34 : FL RX3 34 3 7 .boolean false := ⟨_, _, _, tyX3, rfl, by decide, iw_X3, gt_1 (List.mem_of_getElem? (i := 184) (by decide +kernel)) (by decide +kernel), rfl, by decide +kernel, tyX3_ok, nmX3, fun _ => rfl⟩
theorem fl_X9_9 : FL RX9 9 8 0 (.array .int) true := ⟨_, _, _, tyX9, rfl, by decide, iw_X9, gt_1 (List.mem_of_getElem? (i := 210) (by decide +kernel)) (by decide +kernel), rfl, by decide +kernel, tyX9_ok, nmX9, fun _ => rfl⟩
theorem fl_X9_15 : FL RX9 15 8 1 (.array .int) true := ⟨_, _, _, tyX9, rfl, by decide, iw_X9, gt_1 (List.mem_of_getElem? (i := 211) (by decide +kernel)) (by decide +kernel), rfl, by decide +kernel, tyX9_ok, nmX9, fun _ => rfl⟩
theorem fl_X9_18 : FL RX9 18 8 2 (.array .int) true := ⟨_, _, _, tyX9, rfl, by decide, iw_X9, gt_1 (List.mem_of_getElem? (i := 212) (by decide +kernel)) (by decide +kernel), rfl, by decide +kernel, tyX9_ok, nmX9, fun _ => rfl⟩
theorem fl_X9_21 : FL RX9 21 8 3 (.array .int) true := ⟨_, _, _, tyX9, rfl, by decide, iw_X9, gt_1 (List.mem_of_getElem? (i := 213) (by decide +kernel)) (by decide +kernel), rfl, by decide +kernel, tyX9_ok, nmX9, fun _ => rfl⟩
theorem fl_X9_24 : FL RX9 24 8 4 (.array .int) true := ⟨_, _, _, tyX9, rfl, by decide, iw_X9, gt_1 (List.mem_of_getElem? (i := 214) (by decide +kernel)) (by decide +kernel), rfl, by decide +kernel, tyX9_ok, nmX9, fun _ => rfl⟩
theorem fl_X9_27 : FL RX9 27 8 5 (.array .int) true := ⟨_, _, _, tyX9, rfl, by decide, iw_X9, gt_1 (List.mem_of_getElem? (i := 215) (by decide +kernel)) (by decide +kernel), rfl, by decide +kernel, tyX9_ok, nmX9, fun _ => rfl⟩
theorem fl_X9_35 : FL RX9 35 8 6 (.object "HillLand$Columns") true := ⟨_, _, _, tyX9, rfl, by decide, iw_X9, gt_1 (List.mem_of_getElem? (i := 216) (by decide +kernel)) (by decide +kernel), rfl, by decide +kernel, tyX9_ok, nmX9, fun _ => rfl⟩
theorem fl_X9_39 : FL RX9 39 8 7 (.object "HillLand$Columns") true := ⟨_, _, _, tyX9, rfl, by decide, iw_X9, gt_1 (List.mem_of_getElem? (i := 217) (by decide +kernel)) (by decide +kernel), rfl, by decide +kernel, tyX9_ok, nmX9, fun _ => rfl⟩
theorem fl_X9_42 : FL RX9 42 8 8 .int false := ⟨_, _, _, tyX9, rfl, by decide, iw_X9, gt_1 (List.mem_of_getElem? (i := 218) (by decide +kernel)) (by decide +kernel), rfl, by decide +kernel, tyX9_ok, nmX9, fun _ => rfl⟩
theorem fl_X9_46 : FL RX9 46 8 9 .int false := ⟨_, _, _, tyX9, rfl, by decide, iw_X9, gt_1 (List.mem_of_getElem? (i := 219) (by decide +kernel)) (by decide +kernel), rfl, by decide +kernel, tyX9_ok, nmX9, fun _ => rfl⟩
theorem fl_X9_49 : FL RX9 49 8 10 .int false := ⟨_, _, _, tyX9, rfl, by decide, iw_X9, gt_1 (List.mem_of_getElem? (i := 220) (by decide +kernel)) (by decide +kernel), rfl, by decide +kernel, tyX9_ok, nmX9, fun _ => rfl⟩
theorem fl_X9_52 : FL RX9 52 8 11 .int false := ⟨_, _, _, tyX9, rfl, by decide, iw_X9, gt_1 (List.mem_of_getElem? (i := 221) (by decide +kernel)) (by decide +kernel), rfl, by decide +kernel, tyX9_ok, nmX9, fun _ => rfl⟩
theorem fl_X9_55 : FL RX9 55 8 12 .boolean false := ⟨_, _, _, tyX9, rfl, by decide, iw_X9, gt_1 (List.mem_of_getElem? (i := 222) (by decide +kernel)) (by decide +kernel), rfl, by decide +kernel, tyX9_ok, nmX9, fun _ => rfl⟩
theorem fl_X6_9 : FL RX6 9 5 0 (.array .int) true := ⟨_, _, _, tyX6, rfl, by decide, iw_X6, gt_2 (List.mem_of_getElem? (i := 16) (by decide +kernel)) (by decide +kernel), rfl, by decide +kernel, tyX6_ok, nmX6, fun _ => rfl⟩
theorem fl_X6_15 : FL RX6 15 5 1 (.array .int) true := ⟨_, _, _, tyX6, rfl, by decide, iw_X6, gt_2 (List.mem_of_getElem? (i := 17) (by decide +kernel)) (by decide +kernel), rfl, by decide +kernel, tyX6_ok, nmX6, fun _ => rfl⟩
theorem fl_X6_18 : FL RX6 18 5 2 .int false := ⟨_, _, _, tyX6, rfl, by decide, iw_X6, gt_2 (List.mem_of_getElem? (i := 18) (by decide +kernel)) (by decide +kernel), rfl, by decide +kernel, tyX6_ok, nmX6, fun _ => rfl⟩
theorem fl_X6_22 : FL RX6 22 5 3 .int false := ⟨_, _, _, tyX6, rfl, by decide, iw_X6, gt_2 (List.mem_of_getElem? (i := 19) (by decide +kernel)) (by decide +kernel), rfl, by decide +kernel, tyX6_ok, nmX6, fun _ => rfl⟩
theorem fl_X6_25 : FL RX6 25 5 4 .int false := ⟨_, _, _, tyX6, rfl, by decide, iw_X6, gt_2 (List.mem_of_getElem? (i := 20) (by decide +kernel)) (by decide +kernel), rfl, by decide +kernel, tyX6_ok, nmX6, fun _ => rfl⟩
theorem fl_X6_28 : FL RX6 28 5 5 .int false := ⟨_, _, _, tyX6, rfl, by decide, iw_X6, gt_2 (List.mem_of_getElem? (i := 21) (by decide +kernel)) (by decide +kernel), rfl, by decide +kernel, tyX6_ok, nmX6, fun _ => rfl⟩
theorem fl_X6_31 : FL RX6 31 5 6 .int false := ⟨_, _, _, tyX6, rfl, by decide, iw_X6, gt_2 (List.mem_of_getElem? (i := 22) (by decide +kernel)) (by decide +kernel), rfl, by decide +kernel, tyX6_ok, nmX6, fun _ => rfl⟩
theorem fl_X11_10 : FL RX11 10 10 0 (.object "HillLand$Tale") true := ⟨_, _, _, tyX11, rfl, by decide, iw_X11, gt_2 (List.mem_of_getElem? (i := 38) (by decide +kernel)) (by decide +kernel), rfl, by decide +kernel, tyX11_ok, nmX11, fun _ => rfl⟩
theorem fl_X11_16 : FL RX11 16 10 1 (.object "HillLand$Tale") true := ⟨_, _, _, tyX11, rfl, by decide, iw_X11, gt_2 (List.mem_of_getElem? (i := 39) (by decide +kernel)) (by decide +kernel), rfl, by decide +kernel, tyX11_ok, nmX11, fun _ => rfl⟩
theorem fl_X11_19 : FL RX11 19 10 2 (.object "HillLand$Tale") true := ⟨_, _, _, tyX11, rfl, by decide, iw_X11, gt_2 (List.mem_of_getElem? (i := 40) (by decide +kernel)) (by decide +kernel), rfl, by decide +kernel, tyX11_ok, nmX11, fun _ => rfl⟩
theorem fl_X11_22 : FL RX11 22 10 3 (.array (.object "HillLand$Tale")) true := ⟨_, _, _, tyX11, rfl, by decide, iw_X11, gt_2 (List.mem_of_getElem? (i := 41) (by decide +kernel)) (by decide +kernel), rfl, by decide +kernel, tyX11_ok, nmX11, fun _ => rfl⟩
theorem fl_X11_26 : FL RX11 26 10 4 (.array .boolean) true := ⟨_, _, _, tyX11, rfl, by decide, iw_X11, gt_2 (List.mem_of_getElem? (i := 42) (by decide +kernel)) (by decide +kernel), rfl, by decide +kernel, tyX11_ok, nmX11, fun _ => rfl⟩
theorem fl_X11_33 : FL RX11 33 10 5 (.object "HillLand$Text") true := ⟨_, _, _, tyX11, rfl, by decide, iw_X11, gt_2 (List.mem_of_getElem? (i := 43) (by decide +kernel)) (by decide +kernel), rfl, by decide +kernel, tyX11_ok, nmX11, fun _ => rfl⟩
theorem fl_X11_42 : FL RX11 42 10 6 (.object "HillLand$Columns") true := ⟨_, _, _, tyX11, rfl, by decide, iw_X11, gt_2 (List.mem_of_getElem? (i := 44) (by decide +kernel)) (by decide +kernel), rfl, by decide +kernel, tyX11_ok, nmX11, fun _ => rfl⟩
theorem fl_X11_49 : FL RX11 49 10 7 (.object "HillLand$Column") true := ⟨_, _, _, tyX11, rfl, by decide, iw_X11, gt_2 (List.mem_of_getElem? (i := 45) (by decide +kernel)) (by decide +kernel), rfl, by decide +kernel, tyX11_ok, nmX11, fun _ => rfl⟩
theorem fl_X11_56 : FL RX11 56 10 8 (.object "HillLand$Ends") true := ⟨_, _, _, tyX11, rfl, by decide, iw_X11, gt_2 (List.mem_of_getElem? (i := 46) (by decide +kernel)) (by decide +kernel), rfl, by decide +kernel, tyX11_ok, nmX11, fun _ => rfl⟩
theorem fl_X11_63 : FL RX11 63 10 9 (.object "HillLand$Sights") true := ⟨_, _, _, tyX11, rfl, by decide, iw_X11, gt_2 (List.mem_of_getElem? (i := 47) (by decide +kernel)) (by decide +kernel), rfl, by decide +kernel, tyX11_ok, nmX11, fun _ => rfl⟩
theorem fl_X11_70 : FL RX11 70 10 10 (.object "HillLand$Ages") true := ⟨_, _, _, tyX11, rfl, by decide, iw_X11, gt_2 (List.mem_of_getElem? (i := 48) (by decide +kernel)) (by decide +kernel), rfl, by decide +kernel, tyX11_ok, nmX11, fun _ => rfl⟩
theorem fl_X11_77 : FL RX11 77 10 11 (.object "HillLand$Drawing") true := ⟨_, _, _, tyX11, rfl, by decide, iw_X11, gt_2 (List.mem_of_getElem? (i := 49) (by decide +kernel)) (by decide +kernel), rfl, by decide +kernel, tyX11_ok, nmX11, fun _ => rfl⟩
theorem fl_X11_84 : FL RX11 84 10 12 (.object "HillLand$Telling") true := ⟨_, _, _, tyX11, rfl, by decide, iw_X11, gt_2 (List.mem_of_getElem? (i := 50) (by decide +kernel)) (by decide +kernel), rfl, by decide +kernel, tyX11_ok, nmX11, fun _ => rfl⟩
theorem fl_X11_91 : FL RX11 91 10 13 (.object "HillLand$NextHole") true := ⟨_, _, _, tyX11, rfl, by decide, iw_X11, gt_2 (List.mem_of_getElem? (i := 51) (by decide +kernel)) (by decide +kernel), rfl, by decide +kernel, tyX11_ok, nmX11, fun _ => rfl⟩
theorem lk_L_24 : Lnk RL 24 mX11_init := Or.inl (gt_1 (List.mem_of_getElem? (i := 17) (by decide +kernel)) (by decide +kernel))
theorem lo_X11 : Cond.methodLink RX11 1 Lib.objectInit ∈ gtbl := gt_1 (List.mem_of_getElem? (i := 20) (by decide +kernel)) (by decide +kernel)
theorem lk_X11_9 : Lnk RX11 9 mX8_init := Or.inr ⟨"HillLand", lwm_1 (List.mem_of_getElem? (i := 25) (by decide +kernel))⟩
theorem lo_X8 : Cond.methodLink RX8 3 Lib.objectInit ∈ gtbl := gt_1 (List.mem_of_getElem? (i := 28) (by decide +kernel)) (by decide +kernel)
theorem lk_X11_32 : Lnk RX11 32 mX10_init := Or.inr ⟨"HillLand", lwm_1 (List.mem_of_getElem? (i := 43) (by decide +kernel))⟩
theorem lo_X10 : Cond.methodLink RX10 3 Lib.objectInit ∈ gtbl := gt_1 (List.mem_of_getElem? (i := 46) (by decide +kernel)) (by decide +kernel)
theorem lk_X11_39 : Lnk RX11 39 mX2_init := Or.inl (gt_1 (List.mem_of_getElem? (i := 69) (by decide +kernel)) (by decide +kernel))
theorem lo_X2 : Cond.methodLink RX2 1 Lib.objectInit ∈ gtbl := gt_1 (List.mem_of_getElem? (i := 72) (by decide +kernel)) (by decide +kernel)
theorem lk_X2_9 : Lnk RX2 9 mX1_init := Or.inl (gt_1 (List.mem_of_getElem? (i := 75) (by decide +kernel)) (by decide +kernel))
theorem lo_X1 : Cond.methodLink RX1 3 Lib.objectInit ∈ gtbl := gt_1 (List.mem_of_getElem? (i := 78) (by decide +kernel)) (by decide +kernel)
theorem lk_X1_15 : Lnk RX1 15 mX1_begin := Or.inl (gt_1 (List.mem_of_getElem? (i := 79) (by decide +kernel)) (by decide +kernel))
theorem lk_X1_22 : Lnk RX1 22 mX11_fill := Or.inr ⟨"HillLand", lwm_1 (List.mem_of_getElem? (i := 83) (by decide +kernel))⟩
theorem lk_X11_362 : Lnk RX11 362 mJ9_max_7cf53 := Or.inl (gt_1 (List.mem_of_getElem? (i := 86) (by decide +kernel)) (by decide +kernel))
theorem lk_X2_16 : Lnk RX2 16 mJ9_max_7cf53 := Or.inl (gt_1 (List.mem_of_getElem? (i := 93) (by decide +kernel)) (by decide +kernel))
theorem lk_X11_48 : Lnk RX11 48 mX1_init := Or.inl (gt_1 (List.mem_of_getElem? (i := 103) (by decide +kernel)) (by decide +kernel))
theorem lk_X11_55 : Lnk RX11 55 mX4_init := Or.inr ⟨"HillLand", lwm_1 (List.mem_of_getElem? (i := 106) (by decide +kernel))⟩
theorem lo_X4 : Cond.methodLink RX4 3 Lib.objectInit ∈ gtbl := gt_1 (List.mem_of_getElem? (i := 109) (by decide +kernel)) (by decide +kernel)
theorem lk_X4_11 : Lnk RX4 11 mX8_init := Or.inr ⟨"HillLand", lwm_1 (List.mem_of_getElem? (i := 111) (by decide +kernel))⟩
theorem lk_X4_20 : Lnk RX4 20 mX2_init := Or.inl (gt_1 (List.mem_of_getElem? (i := 113) (by decide +kernel)) (by decide +kernel))
theorem lk_X11_62 : Lnk RX11 62 mX7_init := Or.inr ⟨"HillLand", lwm_1 (List.mem_of_getElem? (i := 144) (by decide +kernel))⟩
theorem lo_X7 : Cond.methodLink RX7 3 Lib.objectInit ∈ gtbl := gt_1 (List.mem_of_getElem? (i := 147) (by decide +kernel)) (by decide +kernel)
theorem lk_X11_69 : Lnk RX11 69 mX0_init := Or.inr ⟨"HillLand", lwm_1 (List.mem_of_getElem? (i := 157) (by decide +kernel))⟩
theorem lo_X0 : Cond.methodLink RX0 3 Lib.objectInit ∈ gtbl := gt_1 (List.mem_of_getElem? (i := 160) (by decide +kernel)) (by decide +kernel)
theorem lk_X11_76 : Lnk RX11 76 mX3_init := Or.inr ⟨"HillLand", lwm_1 (List.mem_of_getElem? (i := 173) (by decide +kernel))⟩
theorem lo_X3 : Cond.methodLink RX3 3 Lib.objectInit ∈ gtbl := gt_1 (List.mem_of_getElem? (i := 176) (by decide +kernel)) (by decide +kernel)
theorem lk_X11_83 : Lnk RX11 83 mX9_init := Or.inr ⟨"HillLand", lwm_1 (List.mem_of_getElem? (i := 204) (by decide +kernel))⟩
theorem lo_X9 : Cond.methodLink RX9 3 Lib.objectInit ∈ gtbl := gt_1 (List.mem_of_getElem? (i := 207) (by decide +kernel)) (by decide +kernel)
theorem lk_X9_32 : Lnk RX9 32 mX2_init := Or.inl (gt_1 (List.mem_of_getElem? (i := 209) (by decide +kernel)) (by decide +kernel))
theorem lk_X11_90 : Lnk RX11 90 mX6_init := Or.inr ⟨"HillLand", lwm_2 (List.mem_of_getElem? (i := 12) (by decide +kernel))⟩
theorem lo_X6 : Cond.methodLink RX6 3 Lib.objectInit ∈ gtbl := gt_2 (List.mem_of_getElem? (i := 15) (by decide +kernel)) (by decide +kernel)
theorem lk_L_33 : Lnk RL 33 mX11_event := Or.inl (gt_2 (List.mem_of_getElem? (i := 81) (by decide +kernel)) (by decide +kernel))
theorem lk_X11_95 : Lnk RX11 95 mX5_allow := Or.inl (gt_2 (List.mem_of_getElem? (i := 85) (by decide +kernel)) (by decide +kernel))
theorem lk_X5_9 : Lnk RX5 9 mX11_isBelow := Or.inr ⟨"HillLand", lwm_2 (List.mem_of_getElem? (i := 88) (by decide +kernel))⟩
theorem lk_X5_15 : Lnk RX5 15 mX5_suits := Or.inl (gt_2 (List.mem_of_getElem? (i := 91) (by decide +kernel)) (by decide +kernel))
theorem lk_X5_19 : Lnk RX5 19 mX5_numbers := Or.inl (gt_2 (List.mem_of_getElem? (i := 94) (by decide +kernel)) (by decide +kernel))
theorem lk_X5_27 : Lnk RX5 27 mX11_get := Or.inr ⟨"HillLand", lwm_2 (List.mem_of_getElem? (i := 99) (by decide +kernel))⟩
theorem lk_X11_102 : Lnk RX11 102 mX8_size := Or.inl (gt_2 (List.mem_of_getElem? (i := 107) (by decide +kernel)) (by decide +kernel))
theorem lk_X11_107 : Lnk RX11 107 mX8_add := Or.inl (gt_2 (List.mem_of_getElem? (i := 112) (by decide +kernel)) (by decide +kernel))
theorem lk_X8_42 : Lnk RX8 42 mX5_numbers := Or.inl (gt_2 (List.mem_of_getElem? (i := 116) (by decide +kernel)) (by decide +kernel))
theorem lk_X8_48 : Lnk RX8 48 mX11_fill := Or.inr ⟨"HillLand", lwm_2 (List.mem_of_getElem? (i := 117) (by decide +kernel))⟩
theorem lk_X8_30 : Lnk RX8 30 mX11_put := Or.inr ⟨"HillLand", lwm_2 (List.mem_of_getElem? (i := 118) (by decide +kernel))⟩
theorem lk_X8_52 : Lnk RX8 52 mX8_setNumber := Or.inl (gt_2 (List.mem_of_getElem? (i := 121) (by decide +kernel)) (by decide +kernel))
theorem lk_X11_111 : Lnk RX11 111 mX11_renew := Or.inl (gt_2 (List.mem_of_getElem? (i := 125) (by decide +kernel)) (by decide +kernel))
theorem lk_X11_342 : Lnk RX11 342 mX2_tell := Or.inl (gt_2 (List.mem_of_getElem? (i := 129) (by decide +kernel)) (by decide +kernel))
theorem lk_X2_26 : Lnk RX2 26 mX2_of := Or.inl (gt_2 (List.mem_of_getElem? (i := 133) (by decide +kernel)) (by decide +kernel))
theorem lk_X2_30 : Lnk RX2 30 mX1_tell := Or.inl (gt_2 (List.mem_of_getElem? (i := 137) (by decide +kernel)) (by decide +kernel))
theorem lk_X1_26 : Lnk RX1 26 mX1_befall := Or.inl (gt_2 (List.mem_of_getElem? (i := 141) (by decide +kernel)) (by decide +kernel))
theorem lk_X1_34 : Lnk RX1 34 mX11_columnX := Or.inr ⟨"HillLand", lwm_2 (List.mem_of_getElem? (i := 145) (by decide +kernel))⟩
theorem lk_X11_354 : Lnk RX11 354 mJ9_floorMod_7cf53 := Or.inl (gt_2 (List.mem_of_getElem? (i := 148) (by decide +kernel)) (by decide +kernel))
theorem lk_X1_38 : Lnk RX1 38 mX11_columnY := Or.inr ⟨"HillLand", lwm_2 (List.mem_of_getElem? (i := 151) (by decide +kernel))⟩
theorem lk_X11_359 : Lnk RX11 359 mJ9_floorDiv_7cf53 := Or.inl (gt_2 (List.mem_of_getElem? (i := 154) (by decide +kernel)) (by decide +kernel))
theorem lk_X1_41 : Lnk RX1 41 mX8_number := Or.inl (gt_2 (List.mem_of_getElem? (i := 157) (by decide +kernel)) (by decide +kernel))
theorem lk_X8_26 : Lnk RX8 26 mX11_get := Or.inr ⟨"HillLand", lwm_2 (List.mem_of_getElem? (i := 161) (by decide +kernel))⟩
theorem lk_X1_47 : Lnk RX1 47 mX8_kind := Or.inl (gt_2 (List.mem_of_getElem? (i := 162) (by decide +kernel)) (by decide +kernel))
theorem lk_X1_52 : Lnk RX1 52 mX1_stepOf := Or.inl (gt_2 (List.mem_of_getElem? (i := 166) (by decide +kernel)) (by decide +kernel))
theorem lk_X1_56 : Lnk RX1 56 mX1_lay := Or.inl (gt_2 (List.mem_of_getElem? (i := 169) (by decide +kernel)) (by decide +kernel))
theorem lk_X1_94 : Lnk RX1 94 mX1_skinHeight := Or.inl (gt_2 (List.mem_of_getElem? (i := 173) (by decide +kernel)) (by decide +kernel))
theorem lk_X1_77 : Lnk RX1 77 mX1_fillHeights := Or.inl (gt_2 (List.mem_of_getElem? (i := 177) (by decide +kernel)) (by decide +kernel))
theorem lk_X1_98 : Lnk RX1 98 mJ9_max_7cf53 := Or.inl (gt_2 (List.mem_of_getElem? (i := 181) (by decide +kernel)) (by decide +kernel))
theorem lk_X1_60 : Lnk RX1 60 mX1_slope := Or.inl (gt_2 (List.mem_of_getElem? (i := 182) (by decide +kernel)) (by decide +kernel))
theorem lk_X1_83 : Lnk RX1 83 mJ9_floorDiv_7cf53 := Or.inl (gt_2 (List.mem_of_getElem? (i := 185) (by decide +kernel)) (by decide +kernel))
theorem lk_X1_64 : Lnk RX1 64 mX1_move := Or.inl (gt_2 (List.mem_of_getElem? (i := 186) (by decide +kernel)) (by decide +kernel))
theorem lk_X1_91 : Lnk RX1 91 mJ9_min_7cf53 := Or.inl (gt_2 (List.mem_of_getElem? (i := 190) (by decide +kernel)) (by decide +kernel))
theorem lk_X1_18 : Lnk RX1 18 mX11_copy := Or.inr ⟨"HillLand", lwm_2 (List.mem_of_getElem? (i := 193) (by decide +kernel))⟩
theorem lc_X11 : Cond.methodLink RX11 365 arraycopyName ∈ gtbl := gt_2 (List.mem_of_getElem? (i := 196) (by decide +kernel)) (by decide +kernel)
theorem lk_X1_68 : Lnk RX1 68 mX1_foldRise := Or.inl (gt_2 (List.mem_of_getElem? (i := 199) (by decide +kernel)) (by decide +kernel))
theorem lk_X1_88 : Lnk RX1 88 mJ9_floorMod_7cf53 := Or.inl (gt_2 (List.mem_of_getElem? (i := 202) (by decide +kernel)) (by decide +kernel))
theorem lk_X1_71 : Lnk RX1 71 mX1_firstBeyond := Or.inl (gt_2 (List.mem_of_getElem? (i := 203) (by decide +kernel)) (by decide +kernel))
theorem lk_X1_74 : Lnk RX1 74 mX1_lastBeyond := Or.inl (gt_2 (List.mem_of_getElem? (i := 206) (by decide +kernel)) (by decide +kernel))
theorem lk_X1_80 : Lnk RX1 80 mX1_intrude := Or.inl (gt_2 (List.mem_of_getElem? (i := 209) (by decide +kernel)) (by decide +kernel))
theorem lk_X11_145 : Lnk RX11 145 mX4_doubt := Or.inl (gt_2 (List.mem_of_getElem? (i := 213) (by decide +kernel)) (by decide +kernel))
theorem lk_X11_253 : Lnk RX11 253 mX9_doubt := Or.inl (gt_2 (List.mem_of_getElem? (i := 217) (by decide +kernel)) (by decide +kernel))
theorem lk_L_63 : Lnk RL 63 mX11_clear := Or.inl (gt_2 (List.mem_of_getElem? (i := 221) (by decide +kernel)) (by decide +kernel))
theorem lk_X11_118 : Lnk RX11 118 mX8_empty := Or.inl (gt_2 (List.mem_of_getElem? (i := 225) (by decide +kernel)) (by decide +kernel))
theorem lk_L_50 : Lnk RL 50 mX11_told := Or.inl (gt_2 (List.mem_of_getElem? (i := 229) (by decide +kernel)) (by decide +kernel))
theorem lk_X11_121 : Lnk RX11 121 mX8_has := Or.inl (gt_2 (List.mem_of_getElem? (i := 233) (by decide +kernel)) (by decide +kernel))
theorem lk_X8_22 : Lnk RX8 22 mX11_isBelow := Or.inr ⟨"HillLand", lwm_2 (List.mem_of_getElem? (i := 237) (by decide +kernel))⟩
theorem lk_X11_126 : Lnk RX11 126 mX8_kind := Or.inl (gt_2 (List.mem_of_getElem? (i := 239) (by decide +kernel)) (by decide +kernel))
theorem lk_X11_130 : Lnk RX11 130 mX8_isLoose := Or.inl (gt_3 (List.mem_of_getElem? (i := 0) (by decide +kernel)) (by decide +kernel))
theorem lk_X11_133 : Lnk RX11 133 mX11_flag := Or.inl (gt_3 (List.mem_of_getElem? (i := 4) (by decide +kernel)) (by decide +kernel))
theorem lk_X11_137 : Lnk RX11 137 mX8_number := Or.inl (gt_3 (List.mem_of_getElem? (i := 7) (by decide +kernel)) (by decide +kernel))
theorem lk_L_74 : Lnk RL 74 mX11_loose := Or.inl (gt_3 (List.mem_of_getElem? (i := 8) (by decide +kernel)) (by decide +kernel))
theorem lk_X11_141 : Lnk RX11 141 mX8_setLoose := Or.inl (gt_3 (List.mem_of_getElem? (i := 12) (by decide +kernel)) (by decide +kernel))
theorem lk_X8_34 : Lnk RX8 34 mX11_flag := Or.inr ⟨"HillLand", lwm_3 (List.mem_of_getElem? (i := 16) (by decide +kernel))⟩
theorem lk_L_78 : Lnk RL 78 mX11_count := Or.inl (gt_3 (List.mem_of_getElem? (i := 17) (by decide +kernel)) (by decide +kernel))
theorem lk_X11_155 : Lnk RX11 155 mX8_looseOnes := Or.inl (gt_3 (List.mem_of_getElem? (i := 21) (by decide +kernel)) (by decide +kernel))
theorem lk_X8_38 : Lnk RX8 38 mX8_isLoose := Or.inl (gt_3 (List.mem_of_getElem? (i := 25) (by decide +kernel)) (by decide +kernel))
theorem lk_X11_158 : Lnk RX11 158 mX7_size := Or.inl (gt_3 (List.mem_of_getElem? (i := 26) (by decide +kernel)) (by decide +kernel))
theorem lk_X11_159 : Lnk RX11 159 mX0_claims := Or.inl (gt_3 (List.mem_of_getElem? (i := 30) (by decide +kernel)) (by decide +kernel))
theorem lk_X11_162 : Lnk RX11 162 mX11_keptVersions := Or.inl (gt_3 (List.mem_of_getElem? (i := 34) (by decide +kernel)) (by decide +kernel))
theorem lk_X11_165 : Lnk RX11 165 mX10_size := Or.inl (gt_3 (List.mem_of_getElem? (i := 38) (by decide +kernel)) (by decide +kernel))
theorem lk_X11_166 : Lnk RX11 166 mX2_crossings := Or.inl (gt_3 (List.mem_of_getElem? (i := 42) (by decide +kernel)) (by decide +kernel))
theorem lk_X2_38 : Lnk RX2 38 mX1_crossings := Or.inl (gt_3 (List.mem_of_getElem? (i := 46) (by decide +kernel)) (by decide +kernel))
theorem lk_X1_108 : Lnk RX1 108 mX8_birthOf := Or.inl (gt_3 (List.mem_of_getElem? (i := 50) (by decide +kernel)) (by decide +kernel))
theorem lk_X8_59 : Lnk RX8 59 mX8_kind := Or.inl (gt_3 (List.mem_of_getElem? (i := 54) (by decide +kernel)) (by decide +kernel))
theorem lk_X8_62 : Lnk RX8 62 mX8_number := Or.inl (gt_3 (List.mem_of_getElem? (i := 55) (by decide +kernel)) (by decide +kernel))
theorem lk_X11_169 : Lnk RX11 169 mX7_unmetOf := Or.inl (gt_3 (List.mem_of_getElem? (i := 56) (by decide +kernel)) (by decide +kernel))
theorem lk_X7_103 : Lnk RX7 103 mX7_isMetBy := Or.inl (gt_3 (List.mem_of_getElem? (i := 60) (by decide +kernel)) (by decide +kernel))
theorem lk_X7_61 : Lnk RX7 61 mX7_column := Or.inl (gt_3 (List.mem_of_getElem? (i := 64) (by decide +kernel)) (by decide +kernel))
theorem lk_X7_50 : Lnk RX7 50 mX11_get := Or.inr ⟨"HillLand", lwm_3 (List.mem_of_getElem? (i := 68) (by decide +kernel))⟩
theorem lk_X7_90 : Lnk RX7 90 mX2_of := Or.inl (gt_3 (List.mem_of_getElem? (i := 69) (by decide +kernel)) (by decide +kernel))
theorem lk_X7_96 : Lnk RX7 96 mX7_nextColumn := Or.inl (gt_3 (List.mem_of_getElem? (i := 70) (by decide +kernel)) (by decide +kernel))
theorem lk_X7_58 : Lnk RX7 58 mX7_isDip := Or.inl (gt_3 (List.mem_of_getElem? (i := 74) (by decide +kernel)) (by decide +kernel))
theorem lk_X7_54 : Lnk RX7 54 mX7_kind := Or.inl (gt_3 (List.mem_of_getElem? (i := 78) (by decide +kernel)) (by decide +kernel))
theorem lk_X7_64 : Lnk RX7 64 mX7_p := Or.inl (gt_3 (List.mem_of_getElem? (i := 82) (by decide +kernel)) (by decide +kernel))
theorem lk_X7_99 : Lnk RX7 99 mX7_isMet := Or.inl (gt_3 (List.mem_of_getElem? (i := 86) (by decide +kernel)) (by decide +kernel))
theorem lk_X7_67 : Lnk RX7 67 mX7_bed := Or.inl (gt_3 (List.mem_of_getElem? (i := 90) (by decide +kernel)) (by decide +kernel))
theorem lk_X7_70 : Lnk RX7 70 mX7_q := Or.inl (gt_3 (List.mem_of_getElem? (i := 94) (by decide +kernel)) (by decide +kernel))
theorem lk_X7_73 : Lnk RX7 73 mX1_skinBed := Or.inl (gt_3 (List.mem_of_getElem? (i := 98) (by decide +kernel)) (by decide +kernel))
theorem lk_X1_105 : Lnk RX1 105 mX1_bedAt := Or.inl (gt_3 (List.mem_of_getElem? (i := 102) (by decide +kernel)) (by decide +kernel))
theorem lk_X1_101 : Lnk RX1 101 mX11_get := Or.inr ⟨"HillLand", lwm_3 (List.mem_of_getElem? (i := 106) (by decide +kernel))⟩
theorem lk_X7_77 : Lnk RX7 77 mX1_bedAt := Or.inl (gt_3 (List.mem_of_getElem? (i := 107) (by decide +kernel)) (by decide +kernel))
theorem lk_X7_80 : Lnk RX7 80 mX1_topOf := Or.inl (gt_3 (List.mem_of_getElem? (i := 108) (by decide +kernel)) (by decide +kernel))
theorem lk_X7_83 : Lnk RX7 83 mX7_isDipMet := Or.inl (gt_3 (List.mem_of_getElem? (i := 112) (by decide +kernel)) (by decide +kernel))
theorem lk_X7_87 : Lnk RX7 87 mX1_isLying := Or.inl (gt_3 (List.mem_of_getElem? (i := 115) (by decide +kernel)) (by decide +kernel))
theorem lk_L_53 : Lnk RL 53 mX11_skin := Or.inl (gt_3 (List.mem_of_getElem? (i := 119) (by decide +kernel)) (by decide +kernel))
theorem lk_X11_186 : Lnk RX11 186 mX11_isStep := Or.inl (gt_3 (List.mem_of_getElem? (i := 123) (by decide +kernel)) (by decide +kernel))
theorem lk_X11_270 : Lnk RX11 270 mX11_isBelow := Or.inl (gt_3 (List.mem_of_getElem? (i := 126) (by decide +kernel)) (by decide +kernel))
theorem lk_X11_192 : Lnk RX11 192 mX11_columnNumber := Or.inl (gt_3 (List.mem_of_getElem? (i := 127) (by decide +kernel)) (by decide +kernel))
theorem lk_X11_195 : Lnk RX11 195 mX2_of := Or.inl (gt_3 (List.mem_of_getElem? (i := 130) (by decide +kernel)) (by decide +kernel))
theorem lk_X11_202 : Lnk RX11 202 mX1_skinHeight := Or.inl (gt_3 (List.mem_of_getElem? (i := 131) (by decide +kernel)) (by decide +kernel))
theorem lk_X11_205 : Lnk RX11 205 mX1_skinBed := Or.inl (gt_3 (List.mem_of_getElem? (i := 132) (by decide +kernel)) (by decide +kernel))
theorem lk_L_71 : Lnk RL 71 mX11_amount := Or.inl (gt_3 (List.mem_of_getElem? (i := 133) (by decide +kernel)) (by decide +kernel))
theorem lk_X11_208 : Lnk RX11 208 mX11_isBed := Or.inl (gt_3 (List.mem_of_getElem? (i := 137) (by decide +kernel)) (by decide +kernel))
theorem lk_X11_221 : Lnk RX11 221 mX2_cellsOf := Or.inl (gt_3 (List.mem_of_getElem? (i := 140) (by decide +kernel)) (by decide +kernel))
theorem lk_X2_34 : Lnk RX2 34 mX1_cellsOf := Or.inl (gt_3 (List.mem_of_getElem? (i := 144) (by decide +kernel)) (by decide +kernel))
theorem lk_X11_223 : Lnk RX11 223 mX4_know := Or.inl (gt_3 (List.mem_of_getElem? (i := 149) (by decide +kernel)) (by decide +kernel))
theorem lk_X4_55 : Lnk RX4 55 mX8_become := Or.inl (gt_3 (List.mem_of_getElem? (i := 153) (by decide +kernel)) (by decide +kernel))
theorem lk_X8_70 : Lnk RX8 70 mX11_copy := Or.inr ⟨"HillLand", lwm_3 (List.mem_of_getElem? (i := 157) (by decide +kernel))⟩
theorem lk_X4_59 : Lnk RX4 59 mX4_findLoose := Or.inl (gt_3 (List.mem_of_getElem? (i := 158) (by decide +kernel)) (by decide +kernel))
theorem lk_X4_87 : Lnk RX4 87 mX8_size := Or.inl (gt_3 (List.mem_of_getElem? (i := 162) (by decide +kernel)) (by decide +kernel))
theorem lk_X4_91 : Lnk RX4 91 mX8_isLoose := Or.inl (gt_3 (List.mem_of_getElem? (i := 163) (by decide +kernel)) (by decide +kernel))
theorem lk_X4_95 : Lnk RX4 95 mX11_put := Or.inr ⟨"HillLand", lwm_3 (List.mem_of_getElem? (i := 164) (by decide +kernel))⟩
theorem lk_X4_62 : Lnk RX4 62 mX11_fill := Or.inr ⟨"HillLand", lwm_3 (List.mem_of_getElem? (i := 165) (by decide +kernel))⟩
theorem lk_X4_66 : Lnk RX4 66 mX2_of := Or.inl (gt_3 (List.mem_of_getElem? (i := 166) (by decide +kernel)) (by decide +kernel))
theorem lk_X4_70 : Lnk RX4 70 mX4_looseIndex := Or.inl (gt_3 (List.mem_of_getElem? (i := 167) (by decide +kernel)) (by decide +kernel))
theorem lk_X4_51 : Lnk RX4 51 mX11_get := Or.inr ⟨"HillLand", lwm_3 (List.mem_of_getElem? (i := 171) (by decide +kernel))⟩
theorem lk_X4_74 : Lnk RX4 74 mX1_tell := Or.inl (gt_3 (List.mem_of_getElem? (i := 172) (by decide +kernel)) (by decide +kernel))
theorem lk_X4_80 : Lnk RX4 80 mX4_vary := Or.inl (gt_3 (List.mem_of_getElem? (i := 173) (by decide +kernel)) (by decide +kernel))
theorem lk_X4_99 : Lnk RX4 99 mX1_countInto := Or.inl (gt_3 (List.mem_of_getElem? (i := 177) (by decide +kernel)) (by decide +kernel))
theorem lk_X4_103 : Lnk RX4 103 mX8_kind := Or.inl (gt_3 (List.mem_of_getElem? (i := 181) (by decide +kernel)) (by decide +kernel))
theorem lk_X4_106 : Lnk RX4 106 mX5_mainPlace := Or.inl (gt_3 (List.mem_of_getElem? (i := 182) (by decide +kernel)) (by decide +kernel))
theorem lk_X4_111 : Lnk RX4 111 mX8_number := Or.inl (gt_3 (List.mem_of_getElem? (i := 187) (by decide +kernel)) (by decide +kernel))
theorem lk_X4_115 : Lnk RX4 115 mX5_suits := Or.inl (gt_3 (List.mem_of_getElem? (i := 188) (by decide +kernel)) (by decide +kernel))
theorem lk_X4_119 : Lnk RX4 119 mX8_setNumber := Or.inl (gt_3 (List.mem_of_getElem? (i := 189) (by decide +kernel)) (by decide +kernel))
theorem lk_X4_123 : Lnk RX4 123 mX1_goOnFrom := Or.inl (gt_3 (List.mem_of_getElem? (i := 190) (by decide +kernel)) (by decide +kernel))
theorem lk_X1_30 : Lnk RX1 30 mX1_become := Or.inl (gt_3 (List.mem_of_getElem? (i := 194) (by decide +kernel)) (by decide +kernel))
theorem lk_X4_84 : Lnk RX4 84 mX4_measure := Or.inl (gt_3 (List.mem_of_getElem? (i := 198) (by decide +kernel)) (by decide +kernel))
theorem lk_X4_127 : Lnk RX4 127 mJ9_min_7cf53 := Or.inl (gt_3 (List.mem_of_getElem? (i := 202) (by decide +kernel)) (by decide +kernel))
theorem lk_X4_132 : Lnk RX4 132 mJ9_max_7cf53 := Or.inl (gt_3 (List.mem_of_getElem? (i := 203) (by decide +kernel)) (by decide +kernel))
theorem lk_X11_226 : Lnk RX11 226 mX4_least := Or.inl (gt_3 (List.mem_of_getElem? (i := 204) (by decide +kernel)) (by decide +kernel))
theorem lk_X11_229 : Lnk RX11 229 mX4_greatest := Or.inl (gt_3 (List.mem_of_getElem? (i := 208) (by decide +kernel)) (by decide +kernel))
theorem lk_L_40 : Lnk RL 40 mX11_sight := Or.inl (gt_3 (List.mem_of_getElem? (i := 212) (by decide +kernel)) (by decide +kernel))
theorem lk_X11_251 : Lnk RX11 251 mX7_allow := Or.inl (gt_3 (List.mem_of_getElem? (i := 216) (by decide +kernel)) (by decide +kernel))
theorem lk_X7_19 : Lnk RX7 19 mX11_isStep := Or.inr ⟨"HillLand", lwm_3 (List.mem_of_getElem? (i := 219) (by decide +kernel))⟩
theorem lk_X7_23 : Lnk RX7 23 mX11_isBed := Or.inr ⟨"HillLand", lwm_3 (List.mem_of_getElem? (i := 220) (by decide +kernel))⟩
theorem lk_X7_26 : Lnk RX7 26 mX11_isHeight := Or.inr ⟨"HillLand", lwm_3 (List.mem_of_getElem? (i := 221) (by decide +kernel))⟩
theorem lk_X7_29 : Lnk RX7 29 mX11_isAxis := Or.inr ⟨"HillLand", lwm_3 (List.mem_of_getElem? (i := 224) (by decide +kernel))⟩
theorem lk_X7_32 : Lnk RX7 32 mX1_stepOf := Or.inl (gt_3 (List.mem_of_getElem? (i := 227) (by decide +kernel)) (by decide +kernel))
theorem lk_X11_252 : Lnk RX11 252 mX7_add := Or.inl (gt_3 (List.mem_of_getElem? (i := 228) (by decide +kernel)) (by decide +kernel))
theorem lk_X7_42 : Lnk RX7 42 mX11_put := Or.inr ⟨"HillLand", lwm_3 (List.mem_of_getElem? (i := 232) (by decide +kernel))⟩
theorem lk_X7_46 : Lnk RX7 46 mX11_columnNumber := Or.inr ⟨"HillLand", lwm_3 (List.mem_of_getElem? (i := 233) (by decide +kernel))⟩
theorem lk_L_37 : Lnk RL 37 mX11_maybe := Or.inl (gt_3 (List.mem_of_getElem? (i := 234) (by decide +kernel)) (by decide +kernel))
theorem lk_L_67 : Lnk RL 67 mX11_never := Or.inl (gt_3 (List.mem_of_getElem? (i := 238) (by decide +kernel)) (by decide +kernel))
theorem lk_L_43 : Lnk RL 43 mX11_stories := Or.inl (gt_4 (List.mem_of_getElem? (i := 2) (by decide +kernel)) (by decide +kernel))
theorem lk_X11_312 : Lnk RX11 312 mX11_tellStories := Or.inl (gt_4 (List.mem_of_getElem? (i := 6) (by decide +kernel)) (by decide +kernel))
theorem lk_X11_259 : Lnk RX11 259 mX11_isKnown := Or.inl (gt_4 (List.mem_of_getElem? (i := 10) (by decide +kernel)) (by decide +kernel))
theorem lk_X11_262 : Lnk RX11 262 mX11_knownOf := Or.inl (gt_4 (List.mem_of_getElem? (i := 14) (by decide +kernel)) (by decide +kernel))
theorem lk_X11_344 : Lnk RX11 344 mX9_know := Or.inl (gt_4 (List.mem_of_getElem? (i := 18) (by decide +kernel)) (by decide +kernel))
theorem lk_X9_71 : Lnk RX9 71 mX8_size := Or.inl (gt_4 (List.mem_of_getElem? (i := 22) (by decide +kernel)) (by decide +kernel))
theorem lk_X9_76 : Lnk RX9 76 mX9_order := Or.inl (gt_4 (List.mem_of_getElem? (i := 23) (by decide +kernel)) (by decide +kernel))
theorem lk_X9_106 : Lnk RX9 106 mX9_append := Or.inl (gt_4 (List.mem_of_getElem? (i := 27) (by decide +kernel)) (by decide +kernel))
theorem lk_X9_110 : Lnk RX9 110 mX11_put := Or.inr ⟨"HillLand", lwm_4 (List.mem_of_getElem? (i := 31) (by decide +kernel))⟩
theorem lk_X9_59 : Lnk RX9 59 mX11_get := Or.inr ⟨"HillLand", lwm_4 (List.mem_of_getElem? (i := 32) (by decide +kernel))⟩
theorem lk_X9_63 : Lnk RX9 63 mX9_length := Or.inl (gt_4 (List.mem_of_getElem? (i := 33) (by decide +kernel)) (by decide +kernel))
theorem lk_X9_79 : Lnk RX9 79 mX11_fill := Or.inr ⟨"HillLand", lwm_4 (List.mem_of_getElem? (i := 37) (by decide +kernel))⟩
theorem lk_X9_83 : Lnk RX9 83 mX7_column := Or.inl (gt_4 (List.mem_of_getElem? (i := 38) (by decide +kernel)) (by decide +kernel))
theorem lk_X9_88 : Lnk RX9 88 mX9_tellColumn := Or.inl (gt_4 (List.mem_of_getElem? (i := 39) (by decide +kernel)) (by decide +kernel))
theorem lk_X9_114 : Lnk RX9 114 mX2_of := Or.inl (gt_4 (List.mem_of_getElem? (i := 43) (by decide +kernel)) (by decide +kernel))
theorem lk_X9_118 : Lnk RX9 118 mX1_become := Or.inl (gt_4 (List.mem_of_getElem? (i := 44) (by decide +kernel)) (by decide +kernel))
theorem lk_X9_124 : Lnk RX9 124 mX1_goOnFrom := Or.inl (gt_4 (List.mem_of_getElem? (i := 45) (by decide +kernel)) (by decide +kernel))
theorem lk_X9_92 : Lnk RX9 92 mX7_isDip := Or.inl (gt_4 (List.mem_of_getElem? (i := 46) (by decide +kernel)) (by decide +kernel))
theorem lk_X9_96 : Lnk RX9 96 mX7_nextColumn := Or.inl (gt_4 (List.mem_of_getElem? (i := 47) (by decide +kernel)) (by decide +kernel))
theorem lk_X9_99 : Lnk RX9 99 mX9_hold := Or.inl (gt_4 (List.mem_of_getElem? (i := 48) (by decide +kernel)) (by decide +kernel))
theorem lk_X9_128 : Lnk RX9 128 mX7_isMet := Or.inl (gt_4 (List.mem_of_getElem? (i := 52) (by decide +kernel)) (by decide +kernel))
theorem lk_X9_103 : Lnk RX9 103 mX9_gather := Or.inl (gt_4 (List.mem_of_getElem? (i := 53) (by decide +kernel)) (by decide +kernel))
theorem lk_X11_315 : Lnk RX11 315 mX9_fits := Or.inl (gt_4 (List.mem_of_getElem? (i := 57) (by decide +kernel)) (by decide +kernel))
theorem lk_L_47 : Lnk RL 47 mX11_story := Or.inl (gt_4 (List.mem_of_getElem? (i := 61) (by decide +kernel)) (by decide +kernel))
theorem lk_X11_318 : Lnk RX11 318 mX9_fitting := Or.inl (gt_4 (List.mem_of_getElem? (i := 65) (by decide +kernel)) (by decide +kernel))
theorem lk_X11_321 : Lnk RX11 321 mX9_length := Or.inl (gt_4 (List.mem_of_getElem? (i := 69) (by decide +kernel)) (by decide +kernel))
theorem lk_X11_324 : Lnk RX11 324 mX9_part := Or.inl (gt_4 (List.mem_of_getElem? (i := 70) (by decide +kernel)) (by decide +kernel))
theorem lk_X9_67 : Lnk RX9 67 mX11_isBelow := Or.inr ⟨"HillLand", lwm_4 (List.mem_of_getElem? (i := 74) (by decide +kernel))⟩
theorem lk_L_56 : Lnk RL 56 mX11_next := Or.inl (gt_4 (List.mem_of_getElem? (i := 75) (by decide +kernel)) (by decide +kernel))
theorem lk_X11_327 : Lnk RX11 327 mX6_know := Or.inl (gt_4 (List.mem_of_getElem? (i := 80) (by decide +kernel)) (by decide +kernel))
theorem lk_X6_34 : Lnk RX6 34 mX9_round := Or.inl (gt_4 (List.mem_of_getElem? (i := 84) (by decide +kernel)) (by decide +kernel))
theorem lk_X6_40 : Lnk RX6 40 mX9_look := Or.inl (gt_4 (List.mem_of_getElem? (i := 88) (by decide +kernel)) (by decide +kernel))
theorem lk_X6_44 : Lnk RX6 44 mX6_divide := Or.inl (gt_4 (List.mem_of_getElem? (i := 92) (by decide +kernel)) (by decide +kernel))
theorem lk_X6_51 : Lnk RX6 51 mX9_fits := Or.inl (gt_4 (List.mem_of_getElem? (i := 96) (by decide +kernel)) (by decide +kernel))
theorem lk_X6_54 : Lnk RX6 54 mX9_fitting := Or.inl (gt_4 (List.mem_of_getElem? (i := 97) (by decide +kernel)) (by decide +kernel))
theorem lk_X6_58 : Lnk RX6 58 mX6_setOf := Or.inl (gt_4 (List.mem_of_getElem? (i := 98) (by decide +kernel)) (by decide +kernel))
theorem lk_X6_66 : Lnk RX6 66 mX11_get := Or.inr ⟨"HillLand", lwm_4 (List.mem_of_getElem? (i := 102) (by decide +kernel))⟩
theorem lk_X6_70 : Lnk RX6 70 mX9_looked := Or.inl (gt_4 (List.mem_of_getElem? (i := 103) (by decide +kernel)) (by decide +kernel))
theorem lk_X6_74 : Lnk RX6 74 mX1_isLike := Or.inl (gt_4 (List.mem_of_getElem? (i := 107) (by decide +kernel)) (by decide +kernel))
theorem lk_X6_62 : Lnk RX6 62 mX11_put := Or.inr ⟨"HillLand", lwm_4 (List.mem_of_getElem? (i := 111) (by decide +kernel))⟩
theorem lk_X6_48 : Lnk RX6 48 mX6_mostOfSets := Or.inl (gt_4 (List.mem_of_getElem? (i := 112) (by decide +kernel)) (by decide +kernel))
theorem lk_X6_80 : Lnk RX6 80 mJ9_max_7cf53 := Or.inl (gt_4 (List.mem_of_getElem? (i := 116) (by decide +kernel)) (by decide +kernel))
theorem lk_X11_330 : Lnk RX11 330 mX6_column := Or.inl (gt_4 (List.mem_of_getElem? (i := 117) (by decide +kernel)) (by decide +kernel))
theorem lk_X11_333 : Lnk RX11 333 mX6_unlike := Or.inl (gt_4 (List.mem_of_getElem? (i := 121) (by decide +kernel)) (by decide +kernel))
theorem lk_X11_336 : Lnk RX11 336 mX6_greatest := Or.inl (gt_4 (List.mem_of_getElem? (i := 125) (by decide +kernel)) (by decide +kernel))
theorem lk_L_60 : Lnk RL 60 mX11_take := Or.inl (gt_4 (List.mem_of_getElem? (i := 129) (by decide +kernel)) (by decide +kernel))
theorem lk_X11_338 : Lnk RX11 338 mX8_addFrom := Or.inl (gt_4 (List.mem_of_getElem? (i := 133) (by decide +kernel)) (by decide +kernel))
theorem lk_X8_56 : Lnk RX8 56 mX8_has := Or.inl (gt_4 (List.mem_of_getElem? (i := 137) (by decide +kernel)) (by decide +kernel))
theorem lk_X8_66 : Lnk RX8 66 mX8_add := Or.inl (gt_4 (List.mem_of_getElem? (i := 138) (by decide +kernel)) (by decide +kernel))
theorem lk_L_25 : Lnk RL 25 mL_cell := Or.inl (gt_4 (List.mem_of_getElem? (i := 139) (by decide +kernel)) (by decide +kernel))
theorem lk_L_19 : Lnk RL 19 mL_low := Or.inl (gt_4 (List.mem_of_getElem? (i := 143) (by decide +kernel)) (by decide +kernel))
theorem lk_L_29 : Lnk RL 29 mL_draw := Or.inl (gt_4 (List.mem_of_getElem? (i := 147) (by decide +kernel)) (by decide +kernel))
theorem lo_in : Cond.instanceMethod Lib.objectInit ∈ gtbl := gt_1 (List.mem_of_getElem? (i := 21) (by decide +kernel)) (by decide +kernel)
theorem lo_co : Cond.code Lib.objectInit ⟨#[0xb1]⟩ 1 none ∈ gtbl := gt_1 (List.mem_of_getElem? (i := 22) (rfl)) (by decide +kernel)
theorem lc_nat : Cond.native arraycopyName ∈ gtbl := gt_2 (List.mem_of_getElem? (i := 198) (by decide +kernel)) (by decide +kernel)
theorem lc_st : Cond.static arraycopyName ∈ gtbl := gt_2 (List.mem_of_getElem? (i := 197) (by decide +kernel)) (by decide +kernel)
theorem lc_in : Cond.initialized "java/lang/System" ∈ gtbl := gt_1 (List.mem_of_getElem? (i := 14) (by decide +kernel)) (by decide +kernel)
theorem ci_X0_init : CalI mX0_init 0 := ⟨⟨gt_1 (List.mem_of_getElem? (i := 159) (rfl)) (by decide +kernel), gt_1 (List.mem_of_getElem? (i := 9) (by decide +kernel)) (by decide +kernel), by decide +kernel⟩, gt_1 (List.mem_of_getElem? (i := 158) (by decide +kernel)) (by decide +kernel), rfl, rfl⟩
theorem cv_X0_claims : CalV mX0_claims 0 := ⟨⟨gt_3 (List.mem_of_getElem? (i := 33) (rfl)) (by decide +kernel), gt_1 (List.mem_of_getElem? (i := 9) (by decide +kernel)) (by decide +kernel), by decide +kernel⟩, gt_3 (List.mem_of_getElem? (i := 31) (by decide +kernel)) (by decide +kernel), gt_3 (List.mem_of_getElem? (i := 32) (by decide +kernel)) (by decide +kernel)⟩
theorem ci_X1_init : CalI mX1_init 0 := ⟨⟨gt_1 (List.mem_of_getElem? (i := 77) (rfl)) (by decide +kernel), gt_1 (List.mem_of_getElem? (i := 5) (by decide +kernel)) (by decide +kernel), by decide +kernel⟩, gt_1 (List.mem_of_getElem? (i := 76) (by decide +kernel)) (by decide +kernel), rfl, rfl⟩
theorem cv_X1_become : CalV mX1_become 1 := ⟨⟨gt_3 (List.mem_of_getElem? (i := 197) (rfl)) (by decide +kernel), gt_1 (List.mem_of_getElem? (i := 5) (by decide +kernel)) (by decide +kernel), by decide +kernel⟩, gt_3 (List.mem_of_getElem? (i := 195) (by decide +kernel)) (by decide +kernel), gt_3 (List.mem_of_getElem? (i := 196) (by decide +kernel)) (by decide +kernel)⟩
theorem cv_X1_begin : CalV mX1_begin 0 := ⟨⟨gt_1 (List.mem_of_getElem? (i := 82) (rfl)) (by decide +kernel), gt_1 (List.mem_of_getElem? (i := 5) (by decide +kernel)) (by decide +kernel), by decide +kernel⟩, gt_1 (List.mem_of_getElem? (i := 81) (by decide +kernel)) (by decide +kernel), (show Cond.selects mX1_begin.1.cls mX1_begin.1 mX1_begin.1 ∈ gtbl from gp_1 (q := (yX1_begin, 1)) (List.mem_of_getElem? (i := 0) (by decide +kernel)) (by decide +kernel))⟩
theorem cv_X1_tell : CalV mX1_tell 3 := ⟨⟨gt_2 (List.mem_of_getElem? (i := 140) (rfl)) (by decide +kernel), gt_1 (List.mem_of_getElem? (i := 5) (by decide +kernel)) (by decide +kernel), by decide +kernel⟩, gt_2 (List.mem_of_getElem? (i := 138) (by decide +kernel)) (by decide +kernel), gt_2 (List.mem_of_getElem? (i := 139) (by decide +kernel)) (by decide +kernel)⟩
theorem cv_X1_goOnFrom : CalV mX1_goOnFrom 5 := ⟨⟨gt_3 (List.mem_of_getElem? (i := 193) (rfl)) (by decide +kernel), gt_1 (List.mem_of_getElem? (i := 5) (by decide +kernel)) (by decide +kernel), by decide +kernel⟩, gt_3 (List.mem_of_getElem? (i := 191) (by decide +kernel)) (by decide +kernel), gt_3 (List.mem_of_getElem? (i := 192) (by decide +kernel)) (by decide +kernel)⟩
theorem cv_X1_befall : CalV mX1_befall 3 := ⟨⟨gt_2 (List.mem_of_getElem? (i := 144) (rfl)) (by decide +kernel), gt_1 (List.mem_of_getElem? (i := 5) (by decide +kernel)) (by decide +kernel), by decide +kernel⟩, gt_2 (List.mem_of_getElem? (i := 142) (by decide +kernel)) (by decide +kernel), gt_2 (List.mem_of_getElem? (i := 143) (by decide +kernel)) (by decide +kernel)⟩
theorem cs_X1_stepOf : CalS mX1_stepOf 3 := ⟨⟨gt_2 (List.mem_of_getElem? (i := 168) (rfl)) (by decide +kernel), gt_1 (List.mem_of_getElem? (i := 5) (by decide +kernel)) (by decide +kernel), by decide +kernel⟩, gt_2 (List.mem_of_getElem? (i := 167) (by decide +kernel)) (by decide +kernel)⟩
theorem cs_X1_slope : CalS mX1_slope 4 := ⟨⟨gt_2 (List.mem_of_getElem? (i := 184) (rfl)) (by decide +kernel), gt_1 (List.mem_of_getElem? (i := 5) (by decide +kernel)) (by decide +kernel), by decide +kernel⟩, gt_2 (List.mem_of_getElem? (i := 183) (by decide +kernel)) (by decide +kernel)⟩
theorem cs_X1_foldRise : CalS mX1_foldRise 4 := ⟨⟨gt_2 (List.mem_of_getElem? (i := 201) (rfl)) (by decide +kernel), gt_1 (List.mem_of_getElem? (i := 5) (by decide +kernel)) (by decide +kernel), by decide +kernel⟩, gt_2 (List.mem_of_getElem? (i := 200) (by decide +kernel)) (by decide +kernel)⟩
theorem cv_X1_lay : CalV mX1_lay 2 := ⟨⟨gt_2 (List.mem_of_getElem? (i := 172) (rfl)) (by decide +kernel), gt_1 (List.mem_of_getElem? (i := 5) (by decide +kernel)) (by decide +kernel), by decide +kernel⟩, gt_2 (List.mem_of_getElem? (i := 171) (by decide +kernel)) (by decide +kernel), (show Cond.selects mX1_lay.1.cls mX1_lay.1 mX1_lay.1 ∈ gtbl from gp_1 (q := (yX1_lay, 1)) (List.mem_of_getElem? (i := 2) (by decide +kernel)) (by decide +kernel))⟩
theorem cs_X1_firstBeyond : CalS mX1_firstBeyond 2 := ⟨⟨gt_2 (List.mem_of_getElem? (i := 205) (rfl)) (by decide +kernel), gt_1 (List.mem_of_getElem? (i := 5) (by decide +kernel)) (by decide +kernel), by decide +kernel⟩, gt_2 (List.mem_of_getElem? (i := 204) (by decide +kernel)) (by decide +kernel)⟩
theorem cs_X1_lastBeyond : CalS mX1_lastBeyond 2 := ⟨⟨gt_2 (List.mem_of_getElem? (i := 208) (rfl)) (by decide +kernel), gt_1 (List.mem_of_getElem? (i := 5) (by decide +kernel)) (by decide +kernel), by decide +kernel⟩, gt_2 (List.mem_of_getElem? (i := 207) (by decide +kernel)) (by decide +kernel)⟩
theorem cv_X1_move : CalV mX1_move 3 := ⟨⟨gt_2 (List.mem_of_getElem? (i := 189) (rfl)) (by decide +kernel), gt_1 (List.mem_of_getElem? (i := 5) (by decide +kernel)) (by decide +kernel), by decide +kernel⟩, gt_2 (List.mem_of_getElem? (i := 188) (by decide +kernel)) (by decide +kernel), (show Cond.selects mX1_move.1.cls mX1_move.1 mX1_move.1 ∈ gtbl from gp_1 (q := (yX1_move, 1)) (List.mem_of_getElem? (i := 4) (by decide +kernel)) (by decide +kernel))⟩
theorem cv_X1_intrude : CalV mX1_intrude 2 := ⟨⟨gt_2 (List.mem_of_getElem? (i := 212) (rfl)) (by decide +kernel), gt_1 (List.mem_of_getElem? (i := 5) (by decide +kernel)) (by decide +kernel), by decide +kernel⟩, gt_2 (List.mem_of_getElem? (i := 211) (by decide +kernel)) (by decide +kernel), (show Cond.selects mX1_intrude.1.cls mX1_intrude.1 mX1_intrude.1 ∈ gtbl from gp_1 (q := (yX1_intrude, 1)) (List.mem_of_getElem? (i := 5) (by decide +kernel)) (by decide +kernel))⟩
theorem cv_X1_fillHeights : CalV mX1_fillHeights 3 := ⟨⟨gt_2 (List.mem_of_getElem? (i := 180) (rfl)) (by decide +kernel), gt_1 (List.mem_of_getElem? (i := 5) (by decide +kernel)) (by decide +kernel), by decide +kernel⟩, gt_2 (List.mem_of_getElem? (i := 179) (by decide +kernel)) (by decide +kernel), (show Cond.selects mX1_fillHeights.1.cls mX1_fillHeights.1 mX1_fillHeights.1 ∈ gtbl from gp_1 (q := (yX1_fillHeights, 1)) (List.mem_of_getElem? (i := 3) (by decide +kernel)) (by decide +kernel))⟩
theorem cv_X1_bedAt : CalV mX1_bedAt 1 := ⟨⟨gt_3 (List.mem_of_getElem? (i := 105) (rfl)) (by decide +kernel), gt_1 (List.mem_of_getElem? (i := 5) (by decide +kernel)) (by decide +kernel), by decide +kernel⟩, gt_3 (List.mem_of_getElem? (i := 103) (by decide +kernel)) (by decide +kernel), gt_3 (List.mem_of_getElem? (i := 104) (by decide +kernel)) (by decide +kernel)⟩
theorem cv_X1_skinHeight : CalV mX1_skinHeight 0 := ⟨⟨gt_2 (List.mem_of_getElem? (i := 176) (rfl)) (by decide +kernel), gt_1 (List.mem_of_getElem? (i := 5) (by decide +kernel)) (by decide +kernel), by decide +kernel⟩, gt_2 (List.mem_of_getElem? (i := 174) (by decide +kernel)) (by decide +kernel), gt_2 (List.mem_of_getElem? (i := 175) (by decide +kernel)) (by decide +kernel)⟩
theorem cv_X1_skinBed : CalV mX1_skinBed 0 := ⟨⟨gt_3 (List.mem_of_getElem? (i := 101) (rfl)) (by decide +kernel), gt_1 (List.mem_of_getElem? (i := 5) (by decide +kernel)) (by decide +kernel), by decide +kernel⟩, gt_3 (List.mem_of_getElem? (i := 99) (by decide +kernel)) (by decide +kernel), gt_3 (List.mem_of_getElem? (i := 100) (by decide +kernel)) (by decide +kernel)⟩
theorem cv_X1_topOf : CalV mX1_topOf 1 := ⟨⟨gt_3 (List.mem_of_getElem? (i := 111) (rfl)) (by decide +kernel), gt_1 (List.mem_of_getElem? (i := 5) (by decide +kernel)) (by decide +kernel), by decide +kernel⟩, gt_3 (List.mem_of_getElem? (i := 109) (by decide +kernel)) (by decide +kernel), gt_3 (List.mem_of_getElem? (i := 110) (by decide +kernel)) (by decide +kernel)⟩
theorem cv_X1_cellsOf : CalV mX1_cellsOf 1 := ⟨⟨gt_3 (List.mem_of_getElem? (i := 147) (rfl)) (by decide +kernel), gt_1 (List.mem_of_getElem? (i := 5) (by decide +kernel)) (by decide +kernel), by decide +kernel⟩, gt_3 (List.mem_of_getElem? (i := 145) (by decide +kernel)) (by decide +kernel), gt_3 (List.mem_of_getElem? (i := 146) (by decide +kernel)) (by decide +kernel)⟩
theorem cv_X1_isLying : CalV mX1_isLying 2 := ⟨⟨gt_3 (List.mem_of_getElem? (i := 118) (rfl)) (by decide +kernel), gt_1 (List.mem_of_getElem? (i := 5) (by decide +kernel)) (by decide +kernel), by decide +kernel⟩, gt_3 (List.mem_of_getElem? (i := 116) (by decide +kernel)) (by decide +kernel), gt_3 (List.mem_of_getElem? (i := 117) (by decide +kernel)) (by decide +kernel)⟩
theorem cv_X1_countInto : CalV mX1_countInto 2 := ⟨⟨gt_3 (List.mem_of_getElem? (i := 180) (rfl)) (by decide +kernel), gt_1 (List.mem_of_getElem? (i := 5) (by decide +kernel)) (by decide +kernel), by decide +kernel⟩, gt_3 (List.mem_of_getElem? (i := 178) (by decide +kernel)) (by decide +kernel), gt_3 (List.mem_of_getElem? (i := 179) (by decide +kernel)) (by decide +kernel)⟩
theorem cv_X1_crossings : CalV mX1_crossings 1 := ⟨⟨gt_3 (List.mem_of_getElem? (i := 49) (rfl)) (by decide +kernel), gt_1 (List.mem_of_getElem? (i := 5) (by decide +kernel)) (by decide +kernel), by decide +kernel⟩, gt_3 (List.mem_of_getElem? (i := 47) (by decide +kernel)) (by decide +kernel), gt_3 (List.mem_of_getElem? (i := 48) (by decide +kernel)) (by decide +kernel)⟩
theorem cv_X1_isLike : CalV mX1_isLike 1 := ⟨⟨gt_4 (List.mem_of_getElem? (i := 110) (rfl)) (by decide +kernel), gt_1 (List.mem_of_getElem? (i := 5) (by decide +kernel)) (by decide +kernel), by decide +kernel⟩, gt_4 (List.mem_of_getElem? (i := 108) (by decide +kernel)) (by decide +kernel), gt_4 (List.mem_of_getElem? (i := 109) (by decide +kernel)) (by decide +kernel)⟩
theorem ci_X2_init : CalI mX2_init 1 := ⟨⟨gt_1 (List.mem_of_getElem? (i := 71) (rfl)) (by decide +kernel), gt_1 (List.mem_of_getElem? (i := 4) (by decide +kernel)) (by decide +kernel), by decide +kernel⟩, gt_1 (List.mem_of_getElem? (i := 70) (by decide +kernel)) (by decide +kernel), rfl, rfl⟩
theorem cv_X2_of : CalV mX2_of 1 := ⟨⟨gt_2 (List.mem_of_getElem? (i := 136) (rfl)) (by decide +kernel), gt_1 (List.mem_of_getElem? (i := 4) (by decide +kernel)) (by decide +kernel), by decide +kernel⟩, gt_2 (List.mem_of_getElem? (i := 134) (by decide +kernel)) (by decide +kernel), gt_2 (List.mem_of_getElem? (i := 135) (by decide +kernel)) (by decide +kernel)⟩
theorem cv_X2_tell : CalV mX2_tell 2 := ⟨⟨gt_2 (List.mem_of_getElem? (i := 132) (rfl)) (by decide +kernel), gt_1 (List.mem_of_getElem? (i := 4) (by decide +kernel)) (by decide +kernel), by decide +kernel⟩, gt_2 (List.mem_of_getElem? (i := 130) (by decide +kernel)) (by decide +kernel), gt_2 (List.mem_of_getElem? (i := 131) (by decide +kernel)) (by decide +kernel)⟩
theorem cv_X2_cellsOf : CalV mX2_cellsOf 1 := ⟨⟨gt_3 (List.mem_of_getElem? (i := 143) (rfl)) (by decide +kernel), gt_1 (List.mem_of_getElem? (i := 4) (by decide +kernel)) (by decide +kernel), by decide +kernel⟩, gt_3 (List.mem_of_getElem? (i := 141) (by decide +kernel)) (by decide +kernel), gt_3 (List.mem_of_getElem? (i := 142) (by decide +kernel)) (by decide +kernel)⟩
theorem cv_X2_crossings : CalV mX2_crossings 1 := ⟨⟨gt_3 (List.mem_of_getElem? (i := 45) (rfl)) (by decide +kernel), gt_1 (List.mem_of_getElem? (i := 4) (by decide +kernel)) (by decide +kernel), by decide +kernel⟩, gt_3 (List.mem_of_getElem? (i := 43) (by decide +kernel)) (by decide +kernel), gt_3 (List.mem_of_getElem? (i := 44) (by decide +kernel)) (by decide +kernel)⟩
theorem ci_X3_init : CalI mX3_init 0 := ⟨⟨gt_1 (List.mem_of_getElem? (i := 175) (rfl)) (by decide +kernel), gt_1 (List.mem_of_getElem? (i := 10) (by decide +kernel)) (by decide +kernel), by decide +kernel⟩, gt_1 (List.mem_of_getElem? (i := 174) (by decide +kernel)) (by decide +kernel), rfl, rfl⟩
theorem ci_X4_init : CalI mX4_init 0 := ⟨⟨gt_1 (List.mem_of_getElem? (i := 108) (rfl)) (by decide +kernel), gt_1 (List.mem_of_getElem? (i := 7) (by decide +kernel)) (by decide +kernel), by decide +kernel⟩, gt_1 (List.mem_of_getElem? (i := 107) (by decide +kernel)) (by decide +kernel), rfl, rfl⟩
theorem cv_X4_doubt : CalV mX4_doubt 0 := ⟨⟨gt_2 (List.mem_of_getElem? (i := 216) (rfl)) (by decide +kernel), gt_1 (List.mem_of_getElem? (i := 7) (by decide +kernel)) (by decide +kernel), by decide +kernel⟩, gt_2 (List.mem_of_getElem? (i := 214) (by decide +kernel)) (by decide +kernel), gt_2 (List.mem_of_getElem? (i := 215) (by decide +kernel)) (by decide +kernel)⟩
theorem cv_X4_least : CalV mX4_least 1 := ⟨⟨gt_3 (List.mem_of_getElem? (i := 207) (rfl)) (by decide +kernel), gt_1 (List.mem_of_getElem? (i := 7) (by decide +kernel)) (by decide +kernel), by decide +kernel⟩, gt_3 (List.mem_of_getElem? (i := 205) (by decide +kernel)) (by decide +kernel), gt_3 (List.mem_of_getElem? (i := 206) (by decide +kernel)) (by decide +kernel)⟩
theorem cv_X4_greatest : CalV mX4_greatest 1 := ⟨⟨gt_3 (List.mem_of_getElem? (i := 211) (rfl)) (by decide +kernel), gt_1 (List.mem_of_getElem? (i := 7) (by decide +kernel)) (by decide +kernel), by decide +kernel⟩, gt_3 (List.mem_of_getElem? (i := 209) (by decide +kernel)) (by decide +kernel), gt_3 (List.mem_of_getElem? (i := 210) (by decide +kernel)) (by decide +kernel)⟩
theorem cv_X4_know : CalV mX4_know 1 := ⟨⟨gt_3 (List.mem_of_getElem? (i := 152) (rfl)) (by decide +kernel), gt_1 (List.mem_of_getElem? (i := 7) (by decide +kernel)) (by decide +kernel), by decide +kernel⟩, gt_3 (List.mem_of_getElem? (i := 150) (by decide +kernel)) (by decide +kernel), gt_3 (List.mem_of_getElem? (i := 151) (by decide +kernel)) (by decide +kernel)⟩
theorem cv_X4_findLoose : CalV mX4_findLoose 0 := ⟨⟨gt_3 (List.mem_of_getElem? (i := 161) (rfl)) (by decide +kernel), gt_1 (List.mem_of_getElem? (i := 7) (by decide +kernel)) (by decide +kernel), by decide +kernel⟩, gt_3 (List.mem_of_getElem? (i := 160) (by decide +kernel)) (by decide +kernel), (show Cond.selects mX4_findLoose.1.cls mX4_findLoose.1 mX4_findLoose.1 ∈ gtbl from gp_1 (q := (yX4_findLoose, 9)) (List.mem_of_getElem? (i := 11) (by decide +kernel)) (by decide +kernel))⟩
theorem cv_X4_looseIndex : CalV mX4_looseIndex 1 := ⟨⟨gt_3 (List.mem_of_getElem? (i := 170) (rfl)) (by decide +kernel), gt_1 (List.mem_of_getElem? (i := 7) (by decide +kernel)) (by decide +kernel), by decide +kernel⟩, gt_3 (List.mem_of_getElem? (i := 169) (by decide +kernel)) (by decide +kernel), (show Cond.selects mX4_looseIndex.1.cls mX4_looseIndex.1 mX4_looseIndex.1 ∈ gtbl from gp_1 (q := (yX4_looseIndex, 9)) (List.mem_of_getElem? (i := 12) (by decide +kernel)) (by decide +kernel))⟩
theorem cv_X4_vary : CalV mX4_vary 2 := ⟨⟨gt_3 (List.mem_of_getElem? (i := 176) (rfl)) (by decide +kernel), gt_1 (List.mem_of_getElem? (i := 7) (by decide +kernel)) (by decide +kernel), by decide +kernel⟩, gt_3 (List.mem_of_getElem? (i := 175) (by decide +kernel)) (by decide +kernel), (show Cond.selects mX4_vary.1.cls mX4_vary.1 mX4_vary.1 ∈ gtbl from gp_1 (q := (yX4_vary, 9)) (List.mem_of_getElem? (i := 13) (by decide +kernel)) (by decide +kernel))⟩
theorem cv_X4_measure : CalV mX4_measure 0 := ⟨⟨gt_3 (List.mem_of_getElem? (i := 201) (rfl)) (by decide +kernel), gt_1 (List.mem_of_getElem? (i := 7) (by decide +kernel)) (by decide +kernel), by decide +kernel⟩, gt_3 (List.mem_of_getElem? (i := 200) (by decide +kernel)) (by decide +kernel), (show Cond.selects mX4_measure.1.cls mX4_measure.1 mX4_measure.1 ∈ gtbl from gp_1 (q := (yX4_measure, 9)) (List.mem_of_getElem? (i := 14) (by decide +kernel)) (by decide +kernel))⟩
theorem cs_X5_allow : CalS mX5_allow 6 := ⟨⟨gt_2 (List.mem_of_getElem? (i := 87) (rfl)) (by decide +kernel), gt_1 (List.mem_of_getElem? (i := 13) (by decide +kernel)) (by decide +kernel), by decide +kernel⟩, gt_2 (List.mem_of_getElem? (i := 86) (by decide +kernel)) (by decide +kernel)⟩
theorem cs_X5_suits : CalS mX5_suits 3 := ⟨⟨gt_2 (List.mem_of_getElem? (i := 93) (rfl)) (by decide +kernel), gt_1 (List.mem_of_getElem? (i := 13) (by decide +kernel)) (by decide +kernel), by decide +kernel⟩, gt_2 (List.mem_of_getElem? (i := 92) (by decide +kernel)) (by decide +kernel)⟩
theorem cs_X5_numbers : CalS mX5_numbers 1 := ⟨⟨gt_2 (List.mem_of_getElem? (i := 96) (rfl)) (by decide +kernel), gt_1 (List.mem_of_getElem? (i := 13) (by decide +kernel)) (by decide +kernel), by decide +kernel⟩, gt_2 (List.mem_of_getElem? (i := 95) (by decide +kernel)) (by decide +kernel)⟩
theorem cs_X5_mainPlace : CalS mX5_mainPlace 1 := ⟨⟨gt_3 (List.mem_of_getElem? (i := 184) (rfl)) (by decide +kernel), gt_1 (List.mem_of_getElem? (i := 13) (by decide +kernel)) (by decide +kernel), by decide +kernel⟩, gt_3 (List.mem_of_getElem? (i := 183) (by decide +kernel)) (by decide +kernel)⟩
theorem ci_X6_init : CalI mX6_init 0 := ⟨⟨gt_2 (List.mem_of_getElem? (i := 14) (rfl)) (by decide +kernel), gt_1 (List.mem_of_getElem? (i := 12) (by decide +kernel)) (by decide +kernel), by decide +kernel⟩, gt_2 (List.mem_of_getElem? (i := 13) (by decide +kernel)) (by decide +kernel), rfl, rfl⟩
theorem cv_X6_column : CalV mX6_column 0 := ⟨⟨gt_4 (List.mem_of_getElem? (i := 120) (rfl)) (by decide +kernel), gt_1 (List.mem_of_getElem? (i := 12) (by decide +kernel)) (by decide +kernel), by decide +kernel⟩, gt_4 (List.mem_of_getElem? (i := 118) (by decide +kernel)) (by decide +kernel), gt_4 (List.mem_of_getElem? (i := 119) (by decide +kernel)) (by decide +kernel)⟩
theorem cv_X6_unlike : CalV mX6_unlike 0 := ⟨⟨gt_4 (List.mem_of_getElem? (i := 124) (rfl)) (by decide +kernel), gt_1 (List.mem_of_getElem? (i := 12) (by decide +kernel)) (by decide +kernel), by decide +kernel⟩, gt_4 (List.mem_of_getElem? (i := 122) (by decide +kernel)) (by decide +kernel), gt_4 (List.mem_of_getElem? (i := 123) (by decide +kernel)) (by decide +kernel)⟩
theorem cv_X6_greatest : CalV mX6_greatest 0 := ⟨⟨gt_4 (List.mem_of_getElem? (i := 128) (rfl)) (by decide +kernel), gt_1 (List.mem_of_getElem? (i := 12) (by decide +kernel)) (by decide +kernel), by decide +kernel⟩, gt_4 (List.mem_of_getElem? (i := 126) (by decide +kernel)) (by decide +kernel), gt_4 (List.mem_of_getElem? (i := 127) (by decide +kernel)) (by decide +kernel)⟩
theorem cv_X6_know : CalV mX6_know 3 := ⟨⟨gt_4 (List.mem_of_getElem? (i := 83) (rfl)) (by decide +kernel), gt_1 (List.mem_of_getElem? (i := 12) (by decide +kernel)) (by decide +kernel), by decide +kernel⟩, gt_4 (List.mem_of_getElem? (i := 81) (by decide +kernel)) (by decide +kernel), gt_4 (List.mem_of_getElem? (i := 82) (by decide +kernel)) (by decide +kernel)⟩
theorem cv_X6_divide : CalV mX6_divide 1 := ⟨⟨gt_4 (List.mem_of_getElem? (i := 95) (rfl)) (by decide +kernel), gt_1 (List.mem_of_getElem? (i := 12) (by decide +kernel)) (by decide +kernel), by decide +kernel⟩, gt_4 (List.mem_of_getElem? (i := 94) (by decide +kernel)) (by decide +kernel), (show Cond.selects mX6_divide.1.cls mX6_divide.1 mX6_divide.1 ∈ gtbl from gp_2 (q := (yX6_divide, 7)) (List.mem_of_getElem? (i := 7) (by decide +kernel)) (by decide +kernel))⟩
theorem cv_X6_setOf : CalV mX6_setOf 2 := ⟨⟨gt_4 (List.mem_of_getElem? (i := 101) (rfl)) (by decide +kernel), gt_1 (List.mem_of_getElem? (i := 12) (by decide +kernel)) (by decide +kernel), by decide +kernel⟩, gt_4 (List.mem_of_getElem? (i := 100) (by decide +kernel)) (by decide +kernel), (show Cond.selects mX6_setOf.1.cls mX6_setOf.1 mX6_setOf.1 ∈ gtbl from gp_2 (q := (yX6_setOf, 7)) (List.mem_of_getElem? (i := 8) (by decide +kernel)) (by decide +kernel))⟩
theorem cv_X6_mostOfSets : CalV mX6_mostOfSets 0 := ⟨⟨gt_4 (List.mem_of_getElem? (i := 115) (rfl)) (by decide +kernel), gt_1 (List.mem_of_getElem? (i := 12) (by decide +kernel)) (by decide +kernel), by decide +kernel⟩, gt_4 (List.mem_of_getElem? (i := 114) (by decide +kernel)) (by decide +kernel), (show Cond.selects mX6_mostOfSets.1.cls mX6_mostOfSets.1 mX6_mostOfSets.1 ∈ gtbl from gp_2 (q := (yX6_mostOfSets, 7)) (List.mem_of_getElem? (i := 9) (by decide +kernel)) (by decide +kernel))⟩
theorem ci_X7_init : CalI mX7_init 0 := ⟨⟨gt_1 (List.mem_of_getElem? (i := 146) (rfl)) (by decide +kernel), gt_1 (List.mem_of_getElem? (i := 8) (by decide +kernel)) (by decide +kernel), by decide +kernel⟩, gt_1 (List.mem_of_getElem? (i := 145) (by decide +kernel)) (by decide +kernel), rfl, rfl⟩
theorem cs_X7_allow : CalS mX7_allow 6 := ⟨⟨gt_3 (List.mem_of_getElem? (i := 218) (rfl)) (by decide +kernel), gt_1 (List.mem_of_getElem? (i := 8) (by decide +kernel)) (by decide +kernel), by decide +kernel⟩, gt_3 (List.mem_of_getElem? (i := 217) (by decide +kernel)) (by decide +kernel)⟩
theorem cv_X7_size : CalV mX7_size 0 := ⟨⟨gt_3 (List.mem_of_getElem? (i := 29) (rfl)) (by decide +kernel), gt_1 (List.mem_of_getElem? (i := 8) (by decide +kernel)) (by decide +kernel), by decide +kernel⟩, gt_3 (List.mem_of_getElem? (i := 27) (by decide +kernel)) (by decide +kernel), gt_3 (List.mem_of_getElem? (i := 28) (by decide +kernel)) (by decide +kernel)⟩
theorem cv_X7_add : CalV mX7_add 6 := ⟨⟨gt_3 (List.mem_of_getElem? (i := 231) (rfl)) (by decide +kernel), gt_1 (List.mem_of_getElem? (i := 8) (by decide +kernel)) (by decide +kernel), by decide +kernel⟩, gt_3 (List.mem_of_getElem? (i := 229) (by decide +kernel)) (by decide +kernel), gt_3 (List.mem_of_getElem? (i := 230) (by decide +kernel)) (by decide +kernel)⟩
theorem cv_X7_kind : CalV mX7_kind 1 := ⟨⟨gt_3 (List.mem_of_getElem? (i := 81) (rfl)) (by decide +kernel), gt_1 (List.mem_of_getElem? (i := 8) (by decide +kernel)) (by decide +kernel), by decide +kernel⟩, gt_3 (List.mem_of_getElem? (i := 80) (by decide +kernel)) (by decide +kernel), (show Cond.selects mX7_kind.1.cls mX7_kind.1 mX7_kind.1 ∈ gtbl from gp_1 (q := (yX7_kind, 2)) (List.mem_of_getElem? (i := 7) (by decide +kernel)) (by decide +kernel))⟩
theorem cv_X7_column : CalV mX7_column 1 := ⟨⟨gt_3 (List.mem_of_getElem? (i := 67) (rfl)) (by decide +kernel), gt_1 (List.mem_of_getElem? (i := 8) (by decide +kernel)) (by decide +kernel), by decide +kernel⟩, gt_3 (List.mem_of_getElem? (i := 65) (by decide +kernel)) (by decide +kernel), gt_3 (List.mem_of_getElem? (i := 66) (by decide +kernel)) (by decide +kernel)⟩
theorem cv_X7_bed : CalV mX7_bed 1 := ⟨⟨gt_3 (List.mem_of_getElem? (i := 93) (rfl)) (by decide +kernel), gt_1 (List.mem_of_getElem? (i := 8) (by decide +kernel)) (by decide +kernel), by decide +kernel⟩, gt_3 (List.mem_of_getElem? (i := 92) (by decide +kernel)) (by decide +kernel), (show Cond.selects mX7_bed.1.cls mX7_bed.1 mX7_bed.1 ∈ gtbl from gp_1 (q := (yX7_bed, 2)) (List.mem_of_getElem? (i := 9) (by decide +kernel)) (by decide +kernel))⟩
theorem cv_X7_p : CalV mX7_p 1 := ⟨⟨gt_3 (List.mem_of_getElem? (i := 85) (rfl)) (by decide +kernel), gt_1 (List.mem_of_getElem? (i := 8) (by decide +kernel)) (by decide +kernel), by decide +kernel⟩, gt_3 (List.mem_of_getElem? (i := 84) (by decide +kernel)) (by decide +kernel), (show Cond.selects mX7_p.1.cls mX7_p.1 mX7_p.1 ∈ gtbl from gp_1 (q := (yX7_p, 2)) (List.mem_of_getElem? (i := 8) (by decide +kernel)) (by decide +kernel))⟩
theorem cv_X7_q : CalV mX7_q 1 := ⟨⟨gt_3 (List.mem_of_getElem? (i := 97) (rfl)) (by decide +kernel), gt_1 (List.mem_of_getElem? (i := 8) (by decide +kernel)) (by decide +kernel), by decide +kernel⟩, gt_3 (List.mem_of_getElem? (i := 96) (by decide +kernel)) (by decide +kernel), (show Cond.selects mX7_q.1.cls mX7_q.1 mX7_q.1 ∈ gtbl from gp_1 (q := (yX7_q, 2)) (List.mem_of_getElem? (i := 10) (by decide +kernel)) (by decide +kernel))⟩
theorem cv_X7_isDip : CalV mX7_isDip 1 := ⟨⟨gt_3 (List.mem_of_getElem? (i := 77) (rfl)) (by decide +kernel), gt_1 (List.mem_of_getElem? (i := 8) (by decide +kernel)) (by decide +kernel), by decide +kernel⟩, gt_3 (List.mem_of_getElem? (i := 75) (by decide +kernel)) (by decide +kernel), gt_3 (List.mem_of_getElem? (i := 76) (by decide +kernel)) (by decide +kernel)⟩
theorem cv_X7_nextColumn : CalV mX7_nextColumn 1 := ⟨⟨gt_3 (List.mem_of_getElem? (i := 73) (rfl)) (by decide +kernel), gt_1 (List.mem_of_getElem? (i := 8) (by decide +kernel)) (by decide +kernel), by decide +kernel⟩, gt_3 (List.mem_of_getElem? (i := 71) (by decide +kernel)) (by decide +kernel), gt_3 (List.mem_of_getElem? (i := 72) (by decide +kernel)) (by decide +kernel)⟩
theorem cv_X7_isMet : CalV mX7_isMet 3 := ⟨⟨gt_3 (List.mem_of_getElem? (i := 89) (rfl)) (by decide +kernel), gt_1 (List.mem_of_getElem? (i := 8) (by decide +kernel)) (by decide +kernel), by decide +kernel⟩, gt_3 (List.mem_of_getElem? (i := 87) (by decide +kernel)) (by decide +kernel), gt_3 (List.mem_of_getElem? (i := 88) (by decide +kernel)) (by decide +kernel)⟩
theorem cs_X7_isDipMet : CalS mX7_isDipMet 3 := ⟨⟨gt_3 (List.mem_of_getElem? (i := 114) (rfl)) (by decide +kernel), gt_1 (List.mem_of_getElem? (i := 8) (by decide +kernel)) (by decide +kernel), by decide +kernel⟩, gt_3 (List.mem_of_getElem? (i := 113) (by decide +kernel)) (by decide +kernel)⟩
theorem cv_X7_isMetBy : CalV mX7_isMetBy 2 := ⟨⟨gt_3 (List.mem_of_getElem? (i := 63) (rfl)) (by decide +kernel), gt_1 (List.mem_of_getElem? (i := 8) (by decide +kernel)) (by decide +kernel), by decide +kernel⟩, gt_3 (List.mem_of_getElem? (i := 61) (by decide +kernel)) (by decide +kernel), gt_3 (List.mem_of_getElem? (i := 62) (by decide +kernel)) (by decide +kernel)⟩
theorem cv_X7_unmetOf : CalV mX7_unmetOf 1 := ⟨⟨gt_3 (List.mem_of_getElem? (i := 59) (rfl)) (by decide +kernel), gt_1 (List.mem_of_getElem? (i := 8) (by decide +kernel)) (by decide +kernel), by decide +kernel⟩, gt_3 (List.mem_of_getElem? (i := 57) (by decide +kernel)) (by decide +kernel), gt_3 (List.mem_of_getElem? (i := 58) (by decide +kernel)) (by decide +kernel)⟩
theorem ci_X8_init : CalI mX8_init 0 := ⟨⟨gt_1 (List.mem_of_getElem? (i := 27) (rfl)) (by decide +kernel), gt_1 (List.mem_of_getElem? (i := 2) (by decide +kernel)) (by decide +kernel), by decide +kernel⟩, gt_1 (List.mem_of_getElem? (i := 26) (by decide +kernel)) (by decide +kernel), rfl, rfl⟩
theorem cv_X8_size : CalV mX8_size 0 := ⟨⟨gt_2 (List.mem_of_getElem? (i := 110) (rfl)) (by decide +kernel), gt_1 (List.mem_of_getElem? (i := 2) (by decide +kernel)) (by decide +kernel), by decide +kernel⟩, gt_2 (List.mem_of_getElem? (i := 108) (by decide +kernel)) (by decide +kernel), gt_2 (List.mem_of_getElem? (i := 109) (by decide +kernel)) (by decide +kernel)⟩
theorem cv_X8_has : CalV mX8_has 1 := ⟨⟨gt_2 (List.mem_of_getElem? (i := 236) (rfl)) (by decide +kernel), gt_1 (List.mem_of_getElem? (i := 2) (by decide +kernel)) (by decide +kernel), by decide +kernel⟩, gt_2 (List.mem_of_getElem? (i := 234) (by decide +kernel)) (by decide +kernel), gt_2 (List.mem_of_getElem? (i := 235) (by decide +kernel)) (by decide +kernel)⟩
theorem cv_X8_kind : CalV mX8_kind 1 := ⟨⟨gt_2 (List.mem_of_getElem? (i := 165) (rfl)) (by decide +kernel), gt_1 (List.mem_of_getElem? (i := 2) (by decide +kernel)) (by decide +kernel), by decide +kernel⟩, gt_2 (List.mem_of_getElem? (i := 163) (by decide +kernel)) (by decide +kernel), gt_2 (List.mem_of_getElem? (i := 164) (by decide +kernel)) (by decide +kernel)⟩
theorem cv_X8_number : CalV mX8_number 2 := ⟨⟨gt_2 (List.mem_of_getElem? (i := 160) (rfl)) (by decide +kernel), gt_1 (List.mem_of_getElem? (i := 2) (by decide +kernel)) (by decide +kernel), by decide +kernel⟩, gt_2 (List.mem_of_getElem? (i := 158) (by decide +kernel)) (by decide +kernel), gt_2 (List.mem_of_getElem? (i := 159) (by decide +kernel)) (by decide +kernel)⟩
theorem cv_X8_setNumber : CalV mX8_setNumber 3 := ⟨⟨gt_2 (List.mem_of_getElem? (i := 124) (rfl)) (by decide +kernel), gt_1 (List.mem_of_getElem? (i := 2) (by decide +kernel)) (by decide +kernel), by decide +kernel⟩, gt_2 (List.mem_of_getElem? (i := 122) (by decide +kernel)) (by decide +kernel), gt_2 (List.mem_of_getElem? (i := 123) (by decide +kernel)) (by decide +kernel)⟩
theorem cv_X8_isLoose : CalV mX8_isLoose 1 := ⟨⟨gt_3 (List.mem_of_getElem? (i := 3) (rfl)) (by decide +kernel), gt_1 (List.mem_of_getElem? (i := 2) (by decide +kernel)) (by decide +kernel), by decide +kernel⟩, gt_3 (List.mem_of_getElem? (i := 1) (by decide +kernel)) (by decide +kernel), gt_3 (List.mem_of_getElem? (i := 2) (by decide +kernel)) (by decide +kernel)⟩
theorem cv_X8_setLoose : CalV mX8_setLoose 2 := ⟨⟨gt_3 (List.mem_of_getElem? (i := 15) (rfl)) (by decide +kernel), gt_1 (List.mem_of_getElem? (i := 2) (by decide +kernel)) (by decide +kernel), by decide +kernel⟩, gt_3 (List.mem_of_getElem? (i := 13) (by decide +kernel)) (by decide +kernel), gt_3 (List.mem_of_getElem? (i := 14) (by decide +kernel)) (by decide +kernel)⟩
theorem cv_X8_looseOnes : CalV mX8_looseOnes 0 := ⟨⟨gt_3 (List.mem_of_getElem? (i := 24) (rfl)) (by decide +kernel), gt_1 (List.mem_of_getElem? (i := 2) (by decide +kernel)) (by decide +kernel), by decide +kernel⟩, gt_3 (List.mem_of_getElem? (i := 22) (by decide +kernel)) (by decide +kernel), gt_3 (List.mem_of_getElem? (i := 23) (by decide +kernel)) (by decide +kernel)⟩
theorem cv_X8_add : CalV mX8_add 6 := ⟨⟨gt_2 (List.mem_of_getElem? (i := 115) (rfl)) (by decide +kernel), gt_1 (List.mem_of_getElem? (i := 2) (by decide +kernel)) (by decide +kernel), by decide +kernel⟩, gt_2 (List.mem_of_getElem? (i := 113) (by decide +kernel)) (by decide +kernel), gt_2 (List.mem_of_getElem? (i := 114) (by decide +kernel)) (by decide +kernel)⟩
theorem cv_X8_addFrom : CalV mX8_addFrom 2 := ⟨⟨gt_4 (List.mem_of_getElem? (i := 136) (rfl)) (by decide +kernel), gt_1 (List.mem_of_getElem? (i := 2) (by decide +kernel)) (by decide +kernel), by decide +kernel⟩, gt_4 (List.mem_of_getElem? (i := 134) (by decide +kernel)) (by decide +kernel), gt_4 (List.mem_of_getElem? (i := 135) (by decide +kernel)) (by decide +kernel)⟩
theorem cv_X8_become : CalV mX8_become 1 := ⟨⟨gt_3 (List.mem_of_getElem? (i := 156) (rfl)) (by decide +kernel), gt_1 (List.mem_of_getElem? (i := 2) (by decide +kernel)) (by decide +kernel), by decide +kernel⟩, gt_3 (List.mem_of_getElem? (i := 154) (by decide +kernel)) (by decide +kernel), gt_3 (List.mem_of_getElem? (i := 155) (by decide +kernel)) (by decide +kernel)⟩
theorem cv_X8_empty : CalV mX8_empty 0 := ⟨⟨gt_2 (List.mem_of_getElem? (i := 228) (rfl)) (by decide +kernel), gt_1 (List.mem_of_getElem? (i := 2) (by decide +kernel)) (by decide +kernel), by decide +kernel⟩, gt_2 (List.mem_of_getElem? (i := 226) (by decide +kernel)) (by decide +kernel), gt_2 (List.mem_of_getElem? (i := 227) (by decide +kernel)) (by decide +kernel)⟩
theorem cv_X8_birthOf : CalV mX8_birthOf 1 := ⟨⟨gt_3 (List.mem_of_getElem? (i := 53) (rfl)) (by decide +kernel), gt_1 (List.mem_of_getElem? (i := 2) (by decide +kernel)) (by decide +kernel), by decide +kernel⟩, gt_3 (List.mem_of_getElem? (i := 51) (by decide +kernel)) (by decide +kernel), gt_3 (List.mem_of_getElem? (i := 52) (by decide +kernel)) (by decide +kernel)⟩
theorem ci_X9_init : CalI mX9_init 0 := ⟨⟨gt_1 (List.mem_of_getElem? (i := 206) (rfl)) (by decide +kernel), gt_1 (List.mem_of_getElem? (i := 11) (by decide +kernel)) (by decide +kernel), by decide +kernel⟩, gt_1 (List.mem_of_getElem? (i := 205) (by decide +kernel)) (by decide +kernel), rfl, rfl⟩
theorem cv_X9_doubt : CalV mX9_doubt 0 := ⟨⟨gt_2 (List.mem_of_getElem? (i := 220) (rfl)) (by decide +kernel), gt_1 (List.mem_of_getElem? (i := 11) (by decide +kernel)) (by decide +kernel), by decide +kernel⟩, gt_2 (List.mem_of_getElem? (i := 218) (by decide +kernel)) (by decide +kernel), gt_2 (List.mem_of_getElem? (i := 219) (by decide +kernel)) (by decide +kernel)⟩
theorem cv_X9_round : CalV mX9_round 0 := ⟨⟨gt_4 (List.mem_of_getElem? (i := 87) (rfl)) (by decide +kernel), gt_1 (List.mem_of_getElem? (i := 11) (by decide +kernel)) (by decide +kernel), by decide +kernel⟩, gt_4 (List.mem_of_getElem? (i := 85) (by decide +kernel)) (by decide +kernel), gt_4 (List.mem_of_getElem? (i := 86) (by decide +kernel)) (by decide +kernel)⟩
theorem cv_X9_fits : CalV mX9_fits 0 := ⟨⟨gt_4 (List.mem_of_getElem? (i := 60) (rfl)) (by decide +kernel), gt_1 (List.mem_of_getElem? (i := 11) (by decide +kernel)) (by decide +kernel), by decide +kernel⟩, gt_4 (List.mem_of_getElem? (i := 58) (by decide +kernel)) (by decide +kernel), gt_4 (List.mem_of_getElem? (i := 59) (by decide +kernel)) (by decide +kernel)⟩
theorem cv_X9_fitting : CalV mX9_fitting 1 := ⟨⟨gt_4 (List.mem_of_getElem? (i := 68) (rfl)) (by decide +kernel), gt_1 (List.mem_of_getElem? (i := 11) (by decide +kernel)) (by decide +kernel), by decide +kernel⟩, gt_4 (List.mem_of_getElem? (i := 66) (by decide +kernel)) (by decide +kernel), gt_4 (List.mem_of_getElem? (i := 67) (by decide +kernel)) (by decide +kernel)⟩
theorem cv_X9_length : CalV mX9_length 1 := ⟨⟨gt_4 (List.mem_of_getElem? (i := 36) (rfl)) (by decide +kernel), gt_1 (List.mem_of_getElem? (i := 11) (by decide +kernel)) (by decide +kernel), by decide +kernel⟩, gt_4 (List.mem_of_getElem? (i := 34) (by decide +kernel)) (by decide +kernel), gt_4 (List.mem_of_getElem? (i := 35) (by decide +kernel)) (by decide +kernel)⟩
theorem cv_X9_part : CalV mX9_part 2 := ⟨⟨gt_4 (List.mem_of_getElem? (i := 73) (rfl)) (by decide +kernel), gt_1 (List.mem_of_getElem? (i := 11) (by decide +kernel)) (by decide +kernel), by decide +kernel⟩, gt_4 (List.mem_of_getElem? (i := 71) (by decide +kernel)) (by decide +kernel), gt_4 (List.mem_of_getElem? (i := 72) (by decide +kernel)) (by decide +kernel)⟩
theorem cv_X9_know : CalV mX9_know 4 := ⟨⟨gt_4 (List.mem_of_getElem? (i := 21) (rfl)) (by decide +kernel), gt_1 (List.mem_of_getElem? (i := 11) (by decide +kernel)) (by decide +kernel), by decide +kernel⟩, gt_4 (List.mem_of_getElem? (i := 19) (by decide +kernel)) (by decide +kernel), gt_4 (List.mem_of_getElem? (i := 20) (by decide +kernel)) (by decide +kernel)⟩
theorem cv_X9_order : CalV mX9_order 1 := ⟨⟨gt_4 (List.mem_of_getElem? (i := 26) (rfl)) (by decide +kernel), gt_1 (List.mem_of_getElem? (i := 11) (by decide +kernel)) (by decide +kernel), by decide +kernel⟩, gt_4 (List.mem_of_getElem? (i := 25) (by decide +kernel)) (by decide +kernel), (show Cond.selects mX9_order.1.cls mX9_order.1 mX9_order.1 ∈ gtbl from gp_2 (q := (yX9_order, 13)) (List.mem_of_getElem? (i := 2) (by decide +kernel)) (by decide +kernel))⟩
theorem cv_X9_append : CalV mX9_append 4 := ⟨⟨gt_4 (List.mem_of_getElem? (i := 30) (rfl)) (by decide +kernel), gt_1 (List.mem_of_getElem? (i := 11) (by decide +kernel)) (by decide +kernel), by decide +kernel⟩, gt_4 (List.mem_of_getElem? (i := 29) (by decide +kernel)) (by decide +kernel), (show Cond.selects mX9_append.1.cls mX9_append.1 mX9_append.1 ∈ gtbl from gp_2 (q := (yX9_append, 13)) (List.mem_of_getElem? (i := 3) (by decide +kernel)) (by decide +kernel))⟩
theorem cv_X9_tellColumn : CalV mX9_tellColumn 4 := ⟨⟨gt_4 (List.mem_of_getElem? (i := 42) (rfl)) (by decide +kernel), gt_1 (List.mem_of_getElem? (i := 11) (by decide +kernel)) (by decide +kernel), by decide +kernel⟩, gt_4 (List.mem_of_getElem? (i := 41) (by decide +kernel)) (by decide +kernel), (show Cond.selects mX9_tellColumn.1.cls mX9_tellColumn.1 mX9_tellColumn.1 ∈ gtbl from gp_2 (q := (yX9_tellColumn, 13)) (List.mem_of_getElem? (i := 4) (by decide +kernel)) (by decide +kernel))⟩
theorem cv_X9_hold : CalV mX9_hold 2 := ⟨⟨gt_4 (List.mem_of_getElem? (i := 51) (rfl)) (by decide +kernel), gt_1 (List.mem_of_getElem? (i := 11) (by decide +kernel)) (by decide +kernel), by decide +kernel⟩, gt_4 (List.mem_of_getElem? (i := 50) (by decide +kernel)) (by decide +kernel), (show Cond.selects mX9_hold.1.cls mX9_hold.1 mX9_hold.1 ∈ gtbl from gp_2 (q := (yX9_hold, 13)) (List.mem_of_getElem? (i := 5) (by decide +kernel)) (by decide +kernel))⟩
theorem cv_X9_gather : CalV mX9_gather 0 := ⟨⟨gt_4 (List.mem_of_getElem? (i := 56) (rfl)) (by decide +kernel), gt_1 (List.mem_of_getElem? (i := 11) (by decide +kernel)) (by decide +kernel), by decide +kernel⟩, gt_4 (List.mem_of_getElem? (i := 55) (by decide +kernel)) (by decide +kernel), (show Cond.selects mX9_gather.1.cls mX9_gather.1 mX9_gather.1 ∈ gtbl from gp_2 (q := (yX9_gather, 13)) (List.mem_of_getElem? (i := 6) (by decide +kernel)) (by decide +kernel))⟩
theorem cv_X9_look : CalV mX9_look 3 := ⟨⟨gt_4 (List.mem_of_getElem? (i := 91) (rfl)) (by decide +kernel), gt_1 (List.mem_of_getElem? (i := 11) (by decide +kernel)) (by decide +kernel), by decide +kernel⟩, gt_4 (List.mem_of_getElem? (i := 89) (by decide +kernel)) (by decide +kernel), gt_4 (List.mem_of_getElem? (i := 90) (by decide +kernel)) (by decide +kernel)⟩
theorem cv_X9_looked : CalV mX9_looked 1 := ⟨⟨gt_4 (List.mem_of_getElem? (i := 106) (rfl)) (by decide +kernel), gt_1 (List.mem_of_getElem? (i := 11) (by decide +kernel)) (by decide +kernel), by decide +kernel⟩, gt_4 (List.mem_of_getElem? (i := 104) (by decide +kernel)) (by decide +kernel), gt_4 (List.mem_of_getElem? (i := 105) (by decide +kernel)) (by decide +kernel)⟩
theorem ci_X10_init : CalI mX10_init 0 := ⟨⟨gt_1 (List.mem_of_getElem? (i := 45) (rfl)) (by decide +kernel), gt_1 (List.mem_of_getElem? (i := 3) (by decide +kernel)) (by decide +kernel), by decide +kernel⟩, gt_1 (List.mem_of_getElem? (i := 44) (by decide +kernel)) (by decide +kernel), rfl, rfl⟩
theorem cv_X10_size : CalV mX10_size 0 := ⟨⟨gt_3 (List.mem_of_getElem? (i := 41) (rfl)) (by decide +kernel), gt_1 (List.mem_of_getElem? (i := 3) (by decide +kernel)) (by decide +kernel), by decide +kernel⟩, gt_3 (List.mem_of_getElem? (i := 39) (by decide +kernel)) (by decide +kernel), gt_3 (List.mem_of_getElem? (i := 40) (by decide +kernel)) (by decide +kernel)⟩
theorem ci_X11_init : CalI mX11_init 0 := ⟨⟨gt_1 (List.mem_of_getElem? (i := 19) (rfl)) (by decide +kernel), gt_1 (List.mem_of_getElem? (i := 1) (by decide +kernel)) (by decide +kernel), by decide +kernel⟩, gt_1 (List.mem_of_getElem? (i := 18) (by decide +kernel)) (by decide +kernel), rfl, rfl⟩
theorem cv_X11_event : CalV mX11_event 6 := ⟨⟨gt_2 (List.mem_of_getElem? (i := 84) (rfl)) (by decide +kernel), gt_1 (List.mem_of_getElem? (i := 1) (by decide +kernel)) (by decide +kernel), by decide +kernel⟩, gt_2 (List.mem_of_getElem? (i := 82) (by decide +kernel)) (by decide +kernel), gt_2 (List.mem_of_getElem? (i := 83) (by decide +kernel)) (by decide +kernel)⟩
theorem cv_X11_clear : CalV mX11_clear 0 := ⟨⟨gt_2 (List.mem_of_getElem? (i := 224) (rfl)) (by decide +kernel), gt_1 (List.mem_of_getElem? (i := 1) (by decide +kernel)) (by decide +kernel), by decide +kernel⟩, gt_2 (List.mem_of_getElem? (i := 222) (by decide +kernel)) (by decide +kernel), gt_2 (List.mem_of_getElem? (i := 223) (by decide +kernel)) (by decide +kernel)⟩
theorem cv_X11_told : CalV mX11_told 2 := ⟨⟨gt_2 (List.mem_of_getElem? (i := 232) (rfl)) (by decide +kernel), gt_1 (List.mem_of_getElem? (i := 1) (by decide +kernel)) (by decide +kernel), by decide +kernel⟩, gt_2 (List.mem_of_getElem? (i := 230) (by decide +kernel)) (by decide +kernel), gt_2 (List.mem_of_getElem? (i := 231) (by decide +kernel)) (by decide +kernel)⟩
theorem cv_X11_loose : CalV mX11_loose 2 := ⟨⟨gt_3 (List.mem_of_getElem? (i := 11) (rfl)) (by decide +kernel), gt_1 (List.mem_of_getElem? (i := 1) (by decide +kernel)) (by decide +kernel), by decide +kernel⟩, gt_3 (List.mem_of_getElem? (i := 9) (by decide +kernel)) (by decide +kernel), gt_3 (List.mem_of_getElem? (i := 10) (by decide +kernel)) (by decide +kernel)⟩
theorem cv_X11_count : CalV mX11_count 1 := ⟨⟨gt_3 (List.mem_of_getElem? (i := 20) (rfl)) (by decide +kernel), gt_1 (List.mem_of_getElem? (i := 1) (by decide +kernel)) (by decide +kernel), by decide +kernel⟩, gt_3 (List.mem_of_getElem? (i := 18) (by decide +kernel)) (by decide +kernel), gt_3 (List.mem_of_getElem? (i := 19) (by decide +kernel)) (by decide +kernel)⟩
theorem cv_X11_skin : CalV mX11_skin 3 := ⟨⟨gt_3 (List.mem_of_getElem? (i := 122) (rfl)) (by decide +kernel), gt_1 (List.mem_of_getElem? (i := 1) (by decide +kernel)) (by decide +kernel), by decide +kernel⟩, gt_3 (List.mem_of_getElem? (i := 120) (by decide +kernel)) (by decide +kernel), gt_3 (List.mem_of_getElem? (i := 121) (by decide +kernel)) (by decide +kernel)⟩
theorem cv_X11_amount : CalV mX11_amount 2 := ⟨⟨gt_3 (List.mem_of_getElem? (i := 136) (rfl)) (by decide +kernel), gt_1 (List.mem_of_getElem? (i := 1) (by decide +kernel)) (by decide +kernel), by decide +kernel⟩, gt_3 (List.mem_of_getElem? (i := 134) (by decide +kernel)) (by decide +kernel), gt_3 (List.mem_of_getElem? (i := 135) (by decide +kernel)) (by decide +kernel)⟩
theorem cv_X11_sight : CalV mX11_sight 6 := ⟨⟨gt_3 (List.mem_of_getElem? (i := 215) (rfl)) (by decide +kernel), gt_1 (List.mem_of_getElem? (i := 1) (by decide +kernel)) (by decide +kernel), by decide +kernel⟩, gt_3 (List.mem_of_getElem? (i := 213) (by decide +kernel)) (by decide +kernel), gt_3 (List.mem_of_getElem? (i := 214) (by decide +kernel)) (by decide +kernel)⟩
theorem cv_X11_maybe : CalV mX11_maybe 6 := ⟨⟨gt_3 (List.mem_of_getElem? (i := 237) (rfl)) (by decide +kernel), gt_1 (List.mem_of_getElem? (i := 1) (by decide +kernel)) (by decide +kernel), by decide +kernel⟩, gt_3 (List.mem_of_getElem? (i := 235) (by decide +kernel)) (by decide +kernel), gt_3 (List.mem_of_getElem? (i := 236) (by decide +kernel)) (by decide +kernel)⟩
theorem cv_X11_never : CalV mX11_never 0 := ⟨⟨gt_4 (List.mem_of_getElem? (i := 1) (rfl)) (by decide +kernel), gt_1 (List.mem_of_getElem? (i := 1) (by decide +kernel)) (by decide +kernel), by decide +kernel⟩, gt_3 (List.mem_of_getElem? (i := 239) (by decide +kernel)) (by decide +kernel), gt_4 (List.mem_of_getElem? (i := 0) (by decide +kernel)) (by decide +kernel)⟩
theorem cv_X11_stories : CalV mX11_stories 1 := ⟨⟨gt_4 (List.mem_of_getElem? (i := 5) (rfl)) (by decide +kernel), gt_1 (List.mem_of_getElem? (i := 1) (by decide +kernel)) (by decide +kernel), by decide +kernel⟩, gt_4 (List.mem_of_getElem? (i := 3) (by decide +kernel)) (by decide +kernel), gt_4 (List.mem_of_getElem? (i := 4) (by decide +kernel)) (by decide +kernel)⟩
theorem cv_X11_story : CalV mX11_story 3 := ⟨⟨gt_4 (List.mem_of_getElem? (i := 64) (rfl)) (by decide +kernel), gt_1 (List.mem_of_getElem? (i := 1) (by decide +kernel)) (by decide +kernel), by decide +kernel⟩, gt_4 (List.mem_of_getElem? (i := 62) (by decide +kernel)) (by decide +kernel), gt_4 (List.mem_of_getElem? (i := 63) (by decide +kernel)) (by decide +kernel)⟩
theorem cv_X11_next : CalV mX11_next 2 := ⟨⟨gt_4 (List.mem_of_getElem? (i := 78) (rfl)) (by decide +kernel), gt_1 (List.mem_of_getElem? (i := 1) (by decide +kernel)) (by decide +kernel), by decide +kernel⟩, gt_4 (List.mem_of_getElem? (i := 76) (by decide +kernel)) (by decide +kernel), gt_4 (List.mem_of_getElem? (i := 77) (by decide +kernel)) (by decide +kernel)⟩
theorem cv_X11_take : CalV mX11_take 2 := ⟨⟨gt_4 (List.mem_of_getElem? (i := 132) (rfl)) (by decide +kernel), gt_1 (List.mem_of_getElem? (i := 1) (by decide +kernel)) (by decide +kernel), by decide +kernel⟩, gt_4 (List.mem_of_getElem? (i := 130) (by decide +kernel)) (by decide +kernel), gt_4 (List.mem_of_getElem? (i := 131) (by decide +kernel)) (by decide +kernel)⟩
theorem cv_X11_renew : CalV mX11_renew 0 := ⟨⟨gt_2 (List.mem_of_getElem? (i := 128) (rfl)) (by decide +kernel), gt_1 (List.mem_of_getElem? (i := 1) (by decide +kernel)) (by decide +kernel), by decide +kernel⟩, gt_2 (List.mem_of_getElem? (i := 127) (by decide +kernel)) (by decide +kernel), (show Cond.selects mX11_renew.1.cls mX11_renew.1 mX11_renew.1 ∈ gtbl from gp_1 (q := (yX11_renew, 14)) (List.mem_of_getElem? (i := 1) (by decide +kernel)) (by decide +kernel))⟩
theorem cv_X11_tellStories : CalV mX11_tellStories 1 := ⟨⟨gt_4 (List.mem_of_getElem? (i := 9) (rfl)) (by decide +kernel), gt_1 (List.mem_of_getElem? (i := 1) (by decide +kernel)) (by decide +kernel), by decide +kernel⟩, gt_4 (List.mem_of_getElem? (i := 8) (by decide +kernel)) (by decide +kernel), (show Cond.selects mX11_tellStories.1.cls mX11_tellStories.1 mX11_tellStories.1 ∈ gtbl from gp_1 (q := (yX11_tellStories, 14)) (List.mem_of_getElem? (i := 15) (by decide +kernel)) (by decide +kernel))⟩
theorem cv_X11_isKnown : CalV mX11_isKnown 1 := ⟨⟨gt_4 (List.mem_of_getElem? (i := 13) (rfl)) (by decide +kernel), gt_1 (List.mem_of_getElem? (i := 1) (by decide +kernel)) (by decide +kernel), by decide +kernel⟩, gt_4 (List.mem_of_getElem? (i := 12) (by decide +kernel)) (by decide +kernel), (show Cond.selects mX11_isKnown.1.cls mX11_isKnown.1 mX11_isKnown.1 ∈ gtbl from gp_2 (q := (yX11_isKnown, 14)) (List.mem_of_getElem? (i := 0) (by decide +kernel)) (by decide +kernel))⟩
theorem cv_X11_knownOf : CalV mX11_knownOf 1 := ⟨⟨gt_4 (List.mem_of_getElem? (i := 17) (rfl)) (by decide +kernel), gt_1 (List.mem_of_getElem? (i := 1) (by decide +kernel)) (by decide +kernel), by decide +kernel⟩, gt_4 (List.mem_of_getElem? (i := 16) (by decide +kernel)) (by decide +kernel), (show Cond.selects mX11_knownOf.1.cls mX11_knownOf.1 mX11_knownOf.1 ∈ gtbl from gp_2 (q := (yX11_knownOf, 14)) (List.mem_of_getElem? (i := 1) (by decide +kernel)) (by decide +kernel))⟩
theorem cv_X11_keptVersions : CalV mX11_keptVersions 0 := ⟨⟨gt_3 (List.mem_of_getElem? (i := 37) (rfl)) (by decide +kernel), gt_1 (List.mem_of_getElem? (i := 1) (by decide +kernel)) (by decide +kernel), by decide +kernel⟩, gt_3 (List.mem_of_getElem? (i := 36) (by decide +kernel)) (by decide +kernel), (show Cond.selects mX11_keptVersions.1.cls mX11_keptVersions.1 mX11_keptVersions.1 ∈ gtbl from gp_1 (q := (yX11_keptVersions, 14)) (List.mem_of_getElem? (i := 6) (by decide +kernel)) (by decide +kernel))⟩
theorem cs_X11_flag : CalS mX11_flag 1 := ⟨⟨gt_3 (List.mem_of_getElem? (i := 6) (rfl)) (by decide +kernel), gt_1 (List.mem_of_getElem? (i := 1) (by decide +kernel)) (by decide +kernel), by decide +kernel⟩, gt_3 (List.mem_of_getElem? (i := 5) (by decide +kernel)) (by decide +kernel)⟩
theorem cs_X11_isBelow : CalS mX11_isBelow 2 := ⟨⟨gt_2 (List.mem_of_getElem? (i := 90) (rfl)) (by decide +kernel), gt_1 (List.mem_of_getElem? (i := 1) (by decide +kernel)) (by decide +kernel), by decide +kernel⟩, gt_2 (List.mem_of_getElem? (i := 89) (by decide +kernel)) (by decide +kernel)⟩
theorem cs_X11_isStep : CalS mX11_isStep 1 := ⟨⟨gt_3 (List.mem_of_getElem? (i := 125) (rfl)) (by decide +kernel), gt_1 (List.mem_of_getElem? (i := 1) (by decide +kernel)) (by decide +kernel), by decide +kernel⟩, gt_3 (List.mem_of_getElem? (i := 124) (by decide +kernel)) (by decide +kernel)⟩
theorem cs_X11_isBed : CalS mX11_isBed 1 := ⟨⟨gt_3 (List.mem_of_getElem? (i := 139) (rfl)) (by decide +kernel), gt_1 (List.mem_of_getElem? (i := 1) (by decide +kernel)) (by decide +kernel), by decide +kernel⟩, gt_3 (List.mem_of_getElem? (i := 138) (by decide +kernel)) (by decide +kernel)⟩
theorem cs_X11_isAxis : CalS mX11_isAxis 1 := ⟨⟨gt_3 (List.mem_of_getElem? (i := 226) (rfl)) (by decide +kernel), gt_1 (List.mem_of_getElem? (i := 1) (by decide +kernel)) (by decide +kernel), by decide +kernel⟩, gt_3 (List.mem_of_getElem? (i := 225) (by decide +kernel)) (by decide +kernel)⟩
theorem cs_X11_isHeight : CalS mX11_isHeight 1 := ⟨⟨gt_3 (List.mem_of_getElem? (i := 223) (rfl)) (by decide +kernel), gt_1 (List.mem_of_getElem? (i := 1) (by decide +kernel)) (by decide +kernel), by decide +kernel⟩, gt_3 (List.mem_of_getElem? (i := 222) (by decide +kernel)) (by decide +kernel)⟩
theorem cs_X11_columnNumber : CalS mX11_columnNumber 2 := ⟨⟨gt_3 (List.mem_of_getElem? (i := 129) (rfl)) (by decide +kernel), gt_1 (List.mem_of_getElem? (i := 1) (by decide +kernel)) (by decide +kernel), by decide +kernel⟩, gt_3 (List.mem_of_getElem? (i := 128) (by decide +kernel)) (by decide +kernel)⟩
theorem cs_X11_columnX : CalS mX11_columnX 1 := ⟨⟨gt_2 (List.mem_of_getElem? (i := 147) (rfl)) (by decide +kernel), gt_1 (List.mem_of_getElem? (i := 1) (by decide +kernel)) (by decide +kernel), by decide +kernel⟩, gt_2 (List.mem_of_getElem? (i := 146) (by decide +kernel)) (by decide +kernel)⟩
theorem cs_X11_columnY : CalS mX11_columnY 1 := ⟨⟨gt_2 (List.mem_of_getElem? (i := 153) (rfl)) (by decide +kernel), gt_1 (List.mem_of_getElem? (i := 1) (by decide +kernel)) (by decide +kernel), by decide +kernel⟩, gt_2 (List.mem_of_getElem? (i := 152) (by decide +kernel)) (by decide +kernel)⟩
theorem cs_X11_get : CalS mX11_get 2 := ⟨⟨gt_2 (List.mem_of_getElem? (i := 101) (rfl)) (by decide +kernel), gt_1 (List.mem_of_getElem? (i := 1) (by decide +kernel)) (by decide +kernel), by decide +kernel⟩, gt_2 (List.mem_of_getElem? (i := 100) (by decide +kernel)) (by decide +kernel)⟩
theorem cs_X11_put : CalS mX11_put 3 := ⟨⟨gt_2 (List.mem_of_getElem? (i := 120) (rfl)) (by decide +kernel), gt_1 (List.mem_of_getElem? (i := 1) (by decide +kernel)) (by decide +kernel), by decide +kernel⟩, gt_2 (List.mem_of_getElem? (i := 119) (by decide +kernel)) (by decide +kernel)⟩
theorem cs_X11_fill : CalS mX11_fill 4 := ⟨⟨gt_1 (List.mem_of_getElem? (i := 85) (rfl)) (by decide +kernel), gt_1 (List.mem_of_getElem? (i := 1) (by decide +kernel)) (by decide +kernel), by decide +kernel⟩, gt_1 (List.mem_of_getElem? (i := 84) (by decide +kernel)) (by decide +kernel)⟩
theorem cs_X11_copy : CalS mX11_copy 5 := ⟨⟨gt_2 (List.mem_of_getElem? (i := 195) (rfl)) (by decide +kernel), gt_1 (List.mem_of_getElem? (i := 1) (by decide +kernel)) (by decide +kernel), by decide +kernel⟩, gt_2 (List.mem_of_getElem? (i := 194) (by decide +kernel)) (by decide +kernel)⟩
theorem cs_J9_floorDiv_7cf53 : CalS mJ9_floorDiv_7cf53 2 := ⟨⟨gt_2 (List.mem_of_getElem? (i := 156) (rfl)) (by decide +kernel), gt_1 (List.mem_of_getElem? (i := 6) (by decide +kernel)) (by decide +kernel), by decide +kernel⟩, gt_2 (List.mem_of_getElem? (i := 155) (by decide +kernel)) (by decide +kernel)⟩
theorem cs_J9_floorMod_7cf53 : CalS mJ9_floorMod_7cf53 2 := ⟨⟨gt_2 (List.mem_of_getElem? (i := 150) (rfl)) (by decide +kernel), gt_1 (List.mem_of_getElem? (i := 6) (by decide +kernel)) (by decide +kernel), by decide +kernel⟩, gt_2 (List.mem_of_getElem? (i := 149) (by decide +kernel)) (by decide +kernel)⟩
theorem cs_J9_max_7cf53 : CalS mJ9_max_7cf53 2 := ⟨⟨gt_1 (List.mem_of_getElem? (i := 88) (rfl)) (by decide +kernel), gt_1 (List.mem_of_getElem? (i := 6) (by decide +kernel)) (by decide +kernel), by decide +kernel⟩, gt_1 (List.mem_of_getElem? (i := 87) (by decide +kernel)) (by decide +kernel)⟩
theorem cs_J9_min_7cf53 : CalS mJ9_min_7cf53 2 := ⟨⟨gt_2 (List.mem_of_getElem? (i := 192) (rfl)) (by decide +kernel), gt_1 (List.mem_of_getElem? (i := 6) (by decide +kernel)) (by decide +kernel), by decide +kernel⟩, gt_2 (List.mem_of_getElem? (i := 191) (by decide +kernel)) (by decide +kernel)⟩
theorem cs_L_cell : CalS mL_cell 2 := ⟨⟨gt_4 (List.mem_of_getElem? (i := 141) (rfl)) (by decide +kernel), gt_1 (List.mem_of_getElem? (i := 0) (by decide +kernel)) (by decide +kernel), by decide +kernel⟩, gt_4 (List.mem_of_getElem? (i := 140) (by decide +kernel)) (by decide +kernel)⟩
theorem cs_L_low : CalS mL_low 2 := ⟨⟨gt_4 (List.mem_of_getElem? (i := 145) (rfl)) (by decide +kernel), gt_1 (List.mem_of_getElem? (i := 0) (by decide +kernel)) (by decide +kernel), by decide +kernel⟩, gt_4 (List.mem_of_getElem? (i := 144) (by decide +kernel)) (by decide +kernel)⟩
theorem cs_L_draw : CalS mL_draw 3 := ⟨⟨gt_4 (List.mem_of_getElem? (i := 149) (rfl)) (by decide +kernel), gt_1 (List.mem_of_getElem? (i := 0) (by decide +kernel)) (by decide +kernel), by decide +kernel⟩, gt_4 (List.mem_of_getElem? (i := 148) (by decide +kernel)) (by decide +kernel)⟩
theorem kc_X11_101 : Cond.constant RX11 101 (-100002) ∈ gtbl := gt_2 (List.mem_of_getElem? (i := 106) (by decide +kernel)) (by decide +kernel)
theorem kc_X11_106 : Cond.constant RX11 106 (-100004) ∈ gtbl := gt_2 (List.mem_of_getElem? (i := 111) (by decide +kernel)) (by decide +kernel)
theorem kc_X11_125 : Cond.constant RX11 125 (-100001) ∈ gtbl := gt_2 (List.mem_of_getElem? (i := 238) (by decide +kernel)) (by decide +kernel)
theorem kc_X11_222 : Cond.constant RX11 222 (-100005) ∈ gtbl := gt_3 (List.mem_of_getElem? (i := 148) (by decide +kernel)) (by decide +kernel)
theorem kc_X11_114 : Cond.constant RX11 114 (-100003) ∈ gtbl := gt_4 (List.mem_of_getElem? (i := 79) (by decide +kernel)) (by decide +kernel)
theorem kc_L_7 : Cond.constant RL 7 (747796405) ∈ gtbl := gt_4 (List.mem_of_getElem? (i := 142) (by decide +kernel)) (by decide +kernel)
theorem kc_L_8 : Cond.constant RL 8 (2147483647) ∈ gtbl := gt_4 (List.mem_of_getElem? (i := 146) (by decide +kernel)) (by decide +kernel)
theorem kc_L_59 : Cond.constant RL 59 (-100003) ∈ gtbl := gt_4 (List.mem_of_getElem? (i := 150) (by decide +kernel)) (by decide +kernel)
theorem kc_L_70 : Cond.constant RL 70 (100000) ∈ gtbl := gt_4 (List.mem_of_getElem? (i := 151) (by decide +kernel)) (by decide +kernel)
theorem kc_L_81 : Cond.constant RL 81 (-100002) ∈ gtbl := gt_4 (List.mem_of_getElem? (i := 152) (by decide +kernel)) (by decide +kernel)
theorem kn_L : Cond.initialized RL ∈ gtbl := gt_1 (List.mem_of_getElem? (i := 0) (by decide +kernel)) (by decide +kernel)
theorem kn_X11 : Cond.initialized RX11 ∈ gtbl := gt_1 (List.mem_of_getElem? (i := 1) (by decide +kernel)) (by decide +kernel)
theorem kn_X8 : Cond.initialized RX8 ∈ gtbl := gt_1 (List.mem_of_getElem? (i := 2) (by decide +kernel)) (by decide +kernel)
theorem kn_X10 : Cond.initialized RX10 ∈ gtbl := gt_1 (List.mem_of_getElem? (i := 3) (by decide +kernel)) (by decide +kernel)
theorem kn_X2 : Cond.initialized RX2 ∈ gtbl := gt_1 (List.mem_of_getElem? (i := 4) (by decide +kernel)) (by decide +kernel)
theorem kn_X1 : Cond.initialized RX1 ∈ gtbl := gt_1 (List.mem_of_getElem? (i := 5) (by decide +kernel)) (by decide +kernel)
theorem kn_J9 : Cond.initialized RJ9 ∈ gtbl := gt_1 (List.mem_of_getElem? (i := 6) (by decide +kernel)) (by decide +kernel)
theorem kn_X4 : Cond.initialized RX4 ∈ gtbl := gt_1 (List.mem_of_getElem? (i := 7) (by decide +kernel)) (by decide +kernel)
theorem kn_X7 : Cond.initialized RX7 ∈ gtbl := gt_1 (List.mem_of_getElem? (i := 8) (by decide +kernel)) (by decide +kernel)
theorem kn_X0 : Cond.initialized RX0 ∈ gtbl := gt_1 (List.mem_of_getElem? (i := 9) (by decide +kernel)) (by decide +kernel)
theorem kn_X3 : Cond.initialized RX3 ∈ gtbl := gt_1 (List.mem_of_getElem? (i := 10) (by decide +kernel)) (by decide +kernel)
theorem kn_X9 : Cond.initialized RX9 ∈ gtbl := gt_1 (List.mem_of_getElem? (i := 11) (by decide +kernel)) (by decide +kernel)
theorem kn_X6 : Cond.initialized RX6 ∈ gtbl := gt_1 (List.mem_of_getElem? (i := 12) (by decide +kernel)) (by decide +kernel)
theorem kn_X5 : Cond.initialized RX5 ∈ gtbl := gt_1 (List.mem_of_getElem? (i := 13) (by decide +kernel)) (by decide +kernel)
theorem kn_J10 : Cond.initialized RJ10 ∈ gtbl := gt_1 (List.mem_of_getElem? (i := 14) (by decide +kernel)) (by decide +kernel)
theorem kl_L_22 : Cond.classLink RL 22 "HillLand" ∈ gtbl := gt_1 (List.mem_of_getElem? (i := 15) (by decide +kernel)) (by decide +kernel)
theorem ki_X11 : Cond.instantiable RX11 14 ∈ gtbl := gt_1 (List.mem_of_getElem? (i := 16) (by decide +kernel)) (by decide +kernel)
theorem kl_X11_7 : Cond.classLink RX11 7 "HillLand$Tale" ∈ gtbl := gt_1 (List.mem_of_getElem? (i := 23) (by decide +kernel)) (by decide +kernel)
theorem ki_X8 : Cond.instantiable RX8 3 ∈ gtbl := gt_1 (List.mem_of_getElem? (i := 24) (by decide +kernel)) (by decide +kernel)
theorem kl_X11_30 : Cond.classLink RX11 30 "HillLand$Text" ∈ gtbl := gt_1 (List.mem_of_getElem? (i := 41) (by decide +kernel)) (by decide +kernel)
theorem ki_X10 : Cond.instantiable RX10 6 ∈ gtbl := gt_1 (List.mem_of_getElem? (i := 42) (by decide +kernel)) (by decide +kernel)
theorem kl_X11_37 : Cond.classLink RX11 37 "HillLand$Columns" ∈ gtbl := gt_1 (List.mem_of_getElem? (i := 67) (by decide +kernel)) (by decide +kernel)
theorem ki_X2 : Cond.instantiable RX2 2 ∈ gtbl := gt_1 (List.mem_of_getElem? (i := 68) (by decide +kernel)) (by decide +kernel)
theorem kl_X2_7 : Cond.classLink RX2 7 "HillLand$Column" ∈ gtbl := gt_1 (List.mem_of_getElem? (i := 73) (by decide +kernel)) (by decide +kernel)
theorem ki_X1 : Cond.instantiable RX1 1 ∈ gtbl := gt_1 (List.mem_of_getElem? (i := 74) (by decide +kernel)) (by decide +kernel)
theorem kl_X11_46 : Cond.classLink RX11 46 "HillLand$Column" ∈ gtbl := gt_1 (List.mem_of_getElem? (i := 102) (by decide +kernel)) (by decide +kernel)
theorem kl_X11_53 : Cond.classLink RX11 53 "HillLand$Ends" ∈ gtbl := gt_1 (List.mem_of_getElem? (i := 104) (by decide +kernel)) (by decide +kernel)
theorem ki_X4 : Cond.instantiable RX4 9 ∈ gtbl := gt_1 (List.mem_of_getElem? (i := 105) (by decide +kernel)) (by decide +kernel)
theorem kl_X4_9 : Cond.classLink RX4 9 "HillLand$Tale" ∈ gtbl := gt_1 (List.mem_of_getElem? (i := 110) (by decide +kernel)) (by decide +kernel)
theorem kl_X4_18 : Cond.classLink RX4 18 "HillLand$Columns" ∈ gtbl := gt_1 (List.mem_of_getElem? (i := 112) (by decide +kernel)) (by decide +kernel)
theorem kl_X11_60 : Cond.classLink RX11 60 "HillLand$Sights" ∈ gtbl := gt_1 (List.mem_of_getElem? (i := 142) (by decide +kernel)) (by decide +kernel)
theorem ki_X7 : Cond.instantiable RX7 2 ∈ gtbl := gt_1 (List.mem_of_getElem? (i := 143) (by decide +kernel)) (by decide +kernel)
theorem kl_X11_67 : Cond.classLink RX11 67 "HillLand$Ages" ∈ gtbl := gt_1 (List.mem_of_getElem? (i := 155) (by decide +kernel)) (by decide +kernel)
theorem ki_X0 : Cond.instantiable RX0 3 ∈ gtbl := gt_1 (List.mem_of_getElem? (i := 156) (by decide +kernel)) (by decide +kernel)
theorem kl_X11_74 : Cond.classLink RX11 74 "HillLand$Drawing" ∈ gtbl := gt_1 (List.mem_of_getElem? (i := 171) (by decide +kernel)) (by decide +kernel)
theorem ki_X3 : Cond.instantiable RX3 8 ∈ gtbl := gt_1 (List.mem_of_getElem? (i := 172) (by decide +kernel)) (by decide +kernel)
theorem kl_X11_81 : Cond.classLink RX11 81 "HillLand$Telling" ∈ gtbl := gt_1 (List.mem_of_getElem? (i := 202) (by decide +kernel)) (by decide +kernel)
theorem ki_X9 : Cond.instantiable RX9 13 ∈ gtbl := gt_1 (List.mem_of_getElem? (i := 203) (by decide +kernel)) (by decide +kernel)
theorem kl_X9_30 : Cond.classLink RX9 30 "HillLand$Columns" ∈ gtbl := gt_1 (List.mem_of_getElem? (i := 208) (by decide +kernel)) (by decide +kernel)
theorem kl_X11_88 : Cond.classLink RX11 88 "HillLand$NextHole" ∈ gtbl := gt_2 (List.mem_of_getElem? (i := 10) (by decide +kernel)) (by decide +kernel)
theorem ki_X6 : Cond.instantiable RX6 7 ∈ gtbl := gt_2 (List.mem_of_getElem? (i := 11) (by decide +kernel)) (by decide +kernel)
theorem fs_X5_34 : Cond.fieldLink RX5 34 "HillLand$Kinds" (nmT 0) "[I" ∈ gtbl := gt_2 (List.mem_of_getElem? (i := 97) (by decide +kernel)) (by decide +kernel)
theorem fs_X5_23 : Cond.fieldLink RX5 23 "HillLand$Kinds" (nmT 2) "[I" ∈ gtbl := gt_2 (List.mem_of_getElem? (i := 102) (by decide +kernel)) (by decide +kernel)
theorem fs_X5_31 : Cond.fieldLink RX5 31 "HillLand$Kinds" (nmT 3) "[I" ∈ gtbl := gt_2 (List.mem_of_getElem? (i := 104) (by decide +kernel)) (by decide +kernel)
theorem fs_X5_37 : Cond.fieldLink RX5 37 "HillLand$Kinds" (nmT 1) "[I" ∈ gtbl := gt_3 (List.mem_of_getElem? (i := 185) (by decide +kernel)) (by decide +kernel)
theorem ka_int : Cond.arrayClass .int ∈ gtbl := gt_1 (List.mem_of_getElem? (i := 39) (by decide +kernel)) (by decide +kernel)
theorem ka_boolean : Cond.arrayClass .boolean ∈ gtbl := gt_1 (List.mem_of_getElem? (i := 66) (by decide +kernel)) (by decide +kernel)
