theorem clw_X0 : ∀ w ∈ u_ws RX0 TX0 6, w ∈ lw_tbl ∧ goodWord w = true := by decide +kernel
theorem cl_X0 : ClOk 0 RX0 TX0 6 := ⟨rfl, rfl, by decide, fun w h => TB_in (clw_X0 w h).1 (clw_X0 w h).2, tyX0_ok, nmX0⟩
theorem cd_X0 : ∀ j, j < 6 → fR 0 j = true → defaultValue (fty 0 j) = .null := by decide +kernel
theorem clw_X1 : ∀ w ∈ u_ws RX1 TX1 3, w ∈ lw_tbl ∧ goodWord w = true := by decide +kernel
theorem cl_X1 : ClOk 1 RX1 TX1 3 := ⟨rfl, rfl, by decide, fun w h => TB_in (clw_X1 w h).1 (clw_X1 w h).2, tyX1_ok, nmX1⟩
theorem cd_X1 : ∀ j, j < 3 → fR 1 j = true → defaultValue (fty 1 j) = .null := by decide +kernel
theorem clw_X2 : ∀ w ∈ u_ws RX2 TX2 2, w ∈ lw_tbl ∧ goodWord w = true := by decide +kernel
theorem cl_X2 : ClOk 2 RX2 TX2 2 := ⟨rfl, rfl, by decide, fun w h => TB_in (clw_X2 w h).1 (clw_X2 w h).2, tyX2_ok, nmX2⟩
theorem cd_X2 : ∀ j, j < 2 → fR 2 j = true → defaultValue (fty 2 j) = .null := by decide +kernel
theorem clw_X3 : ∀ w ∈ u_ws RX3 TX3 5, w ∈ lw_tbl ∧ goodWord w = true := by decide +kernel
theorem cl_X3 : ClOk 3 RX3 TX3 5 := ⟨rfl, rfl, by decide, fun w h => TB_in (clw_X3 w h).1 (clw_X3 w h).2, tyX3_ok, nmX3⟩
theorem cd_X3 : ∀ j, j < 5 → fR 3 j = true → defaultValue (fty 3 j) = .null := by decide +kernel
theorem clw_X4 : ∀ w ∈ u_ws RX4 TX4 2, w ∈ lw_tbl ∧ goodWord w = true := by decide +kernel
theorem cl_X4 : ClOk 4 RX4 TX4 2 := ⟨rfl, rfl, by decide, fun w h => TB_in (clw_X4 w h).1 (clw_X4 w h).2, tyX4_ok, nmX4⟩
theorem cd_X4 : ∀ j, j < 2 → fR 4 j = true → defaultValue (fty 4 j) = .null := by decide +kernel
theorem clw_X5 : ∀ w ∈ u_ws RX5 TX5 2, w ∈ lw_tbl ∧ goodWord w = true := by decide +kernel
theorem cl_X5 : ClOk 5 RX5 TX5 2 := ⟨rfl, rfl, by decide, fun w h => TB_in (clw_X5 w h).1 (clw_X5 w h).2, tyX5_ok, nmX5⟩
theorem cd_X5 : ∀ j, j < 2 → fR 5 j = true → defaultValue (fty 5 j) = .null := by decide +kernel
theorem clw_X6 : ∀ w ∈ u_ws RX6 TX6 4, w ∈ lw_tbl ∧ goodWord w = true := by decide +kernel
theorem cl_X6 : ClOk 6 RX6 TX6 4 := ⟨rfl, rfl, by decide, fun w h => TB_in (clw_X6 w h).1 (clw_X6 w h).2, tyX6_ok, nmX6⟩
theorem cd_X6 : ∀ j, j < 4 → fR 6 j = true → defaultValue (fty 6 j) = .null := by decide +kernel
theorem clw_X7 : ∀ w ∈ u_ws RX7 TX7 20, w ∈ lw_tbl ∧ goodWord w = true := by decide +kernel
theorem cl_X7 : ClOk 7 RX7 TX7 20 := ⟨rfl, rfl, by decide, fun w h => TB_in (clw_X7 w h).1 (clw_X7 w h).2, tyX7_ok, nmX7⟩
theorem cd_X7 : ∀ j, j < 20 → fR 7 j = true → defaultValue (fty 7 j) = .null := by decide +kernel
theorem clw_X8 : ∀ w ∈ u_ws RX8 TX8 1, w ∈ lw_tbl ∧ goodWord w = true := by decide +kernel
theorem cl_X8 : ClOk 8 RX8 TX8 1 := ⟨rfl, rfl, by decide, fun w h => TB_in (clw_X8 w h).1 (clw_X8 w h).2, tyX8_ok, nmX8⟩
theorem cd_X8 : ∀ j, j < 1 → fR 8 j = true → defaultValue (fty 8 j) = .null := by decide +kernel
theorem clw_X9 : ∀ w ∈ u_ws RX9 TX9 8, w ∈ lw_tbl ∧ goodWord w = true := by decide +kernel
theorem cl_X9 : ClOk 9 RX9 TX9 8 := ⟨rfl, rfl, by decide, fun w h => TB_in (clw_X9 w h).1 (clw_X9 w h).2, tyX9_ok, nmX9⟩
theorem cd_X9 : ∀ j, j < 8 → fR 9 j = true → defaultValue (fty 9 j) = .null := by decide +kernel
theorem clw_X10 : ∀ w ∈ u_ws RX10 TX10 8, w ∈ lw_tbl ∧ goodWord w = true := by decide +kernel
theorem cl_X10 : ClOk 10 RX10 TX10 8 := ⟨rfl, rfl, by decide, fun w h => TB_in (clw_X10 w h).1 (clw_X10 w h).2, tyX10_ok, nmX10⟩
theorem cd_X10 : ∀ j, j < 8 → fR 10 j = true → defaultValue (fty 10 j) = .null := by decide +kernel
theorem clw_X11 : ∀ w ∈ u_ws RX11 TX11 15, w ∈ lw_tbl ∧ goodWord w = true := by decide +kernel
theorem cl_X11 : ClOk 11 RX11 TX11 15 := ⟨rfl, rfl, by decide, fun w h => TB_in (clw_X11 w h).1 (clw_X11 w h).2, tyX11_ok, nmX11⟩
theorem cd_X11 : ∀ j, j < 15 → fR 11 j = true → defaultValue (fty 11 j) = .null := by decide +kernel
theorem clw_X12 : ∀ w ∈ u_ws RX12 TX12 37, w ∈ lw_tbl ∧ goodWord w = true := by decide +kernel
theorem cl_X12 : ClOk 12 RX12 TX12 37 := ⟨rfl, rfl, by decide, fun w h => TB_in (clw_X12 w h).1 (clw_X12 w h).2, tyX12_ok, nmX12⟩
theorem cd_X12 : ∀ j, j < 37 → fR 12 j = true → defaultValue (fty 12 j) = .null := by decide +kernel
