theorem in_Jx4a65c : ∀ w ∈ u_ws RJx4a65c TJx4a65c 3, w ∈ G := fun w hw => List.mem_filter.mpr ⟨List.mem_append_left _ ((by decide +kernel : ∀ w ∈ u_ws RJx4a65c TJx4a65c 3, w ∈ lw_tbl) w hw), (by decide +kernel : ∀ w ∈ u_ws RJx4a65c TJx4a65c 3, goodWord w = true) w hw⟩
theorem df_Jx4a65c : ∀ j, j < 3 → defaultValue (tyJx4a65c j) = vp_V (fs0 1) j := by decide +kernel
theorem in_X0 : ∀ w ∈ u_ws RX0 TX0 7, w ∈ G := fun w hw => List.mem_filter.mpr ⟨List.mem_append_left _ ((by decide +kernel : ∀ w ∈ u_ws RX0 TX0 7, w ∈ lw_tbl) w hw), (by decide +kernel : ∀ w ∈ u_ws RX0 TX0 7, goodWord w = true) w hw⟩
theorem df_X0 : ∀ j, j < 7 → defaultValue (tyX0 j) = vp_V (fs0 2) j := by decide +kernel
theorem in_X1 : ∀ w ∈ u_ws RX1 TX1 7, w ∈ G := fun w hw => List.mem_filter.mpr ⟨List.mem_append_left _ ((by decide +kernel : ∀ w ∈ u_ws RX1 TX1 7, w ∈ lw_tbl) w hw), (by decide +kernel : ∀ w ∈ u_ws RX1 TX1 7, goodWord w = true) w hw⟩
theorem df_X1 : ∀ j, j < 7 → defaultValue (tyX1 j) = vp_V (fs0 3) j := by decide +kernel
theorem in_X2 : ∀ w ∈ u_ws RX2 TX2 4, w ∈ G := fun w hw => List.mem_filter.mpr ⟨List.mem_append_left _ ((by decide +kernel : ∀ w ∈ u_ws RX2 TX2 4, w ∈ lw_tbl) w hw), (by decide +kernel : ∀ w ∈ u_ws RX2 TX2 4, goodWord w = true) w hw⟩
theorem df_X2 : ∀ j, j < 4 → defaultValue (tyX2 j) = vp_V (fs0 4) j := by decide +kernel
theorem in_X3 : ∀ w ∈ u_ws RX3 TX3 7, w ∈ G := fun w hw => List.mem_filter.mpr ⟨List.mem_append_left _ ((by decide +kernel : ∀ w ∈ u_ws RX3 TX3 7, w ∈ lw_tbl) w hw), (by decide +kernel : ∀ w ∈ u_ws RX3 TX3 7, goodWord w = true) w hw⟩
theorem df_X3 : ∀ j, j < 7 → defaultValue (tyX3 j) = vp_V (fs0 5) j := by decide +kernel
theorem in_X4 : ∀ w ∈ u_ws RX4 TX4 2, w ∈ G := fun w hw => List.mem_filter.mpr ⟨List.mem_append_left _ ((by decide +kernel : ∀ w ∈ u_ws RX4 TX4 2, w ∈ lw_tbl) w hw), (by decide +kernel : ∀ w ∈ u_ws RX4 TX4 2, goodWord w = true) w hw⟩
theorem df_X4 : ∀ j, j < 2 → defaultValue (tyX4 j) = vp_V (fs0 6) j := by decide +kernel
theorem in_X5 : ∀ w ∈ u_ws RX5 TX5 5, w ∈ G := fun w hw => List.mem_filter.mpr ⟨List.mem_append_left _ ((by decide +kernel : ∀ w ∈ u_ws RX5 TX5 5, w ∈ lw_tbl) w hw), (by decide +kernel : ∀ w ∈ u_ws RX5 TX5 5, goodWord w = true) w hw⟩
theorem df_X5 : ∀ j, j < 5 → defaultValue (tyX5 j) = vp_V (fs0 7) j := by decide +kernel
theorem in_X6 : ∀ w ∈ u_ws RX6 TX6 7, w ∈ G := fun w hw => List.mem_filter.mpr ⟨List.mem_append_left _ ((by decide +kernel : ∀ w ∈ u_ws RX6 TX6 7, w ∈ lw_tbl) w hw), (by decide +kernel : ∀ w ∈ u_ws RX6 TX6 7, goodWord w = true) w hw⟩
theorem df_X6 : ∀ j, j < 7 → defaultValue (tyX6 j) = vp_V (fs0 8) j := by decide +kernel
theorem in_X7 : ∀ w ∈ u_ws RX7 TX7 8, w ∈ G := fun w hw => List.mem_filter.mpr ⟨List.mem_append_left _ ((by decide +kernel : ∀ w ∈ u_ws RX7 TX7 8, w ∈ lw_tbl) w hw), (by decide +kernel : ∀ w ∈ u_ws RX7 TX7 8, goodWord w = true) w hw⟩
theorem df_X7 : ∀ j, j < 8 → defaultValue (tyX7 j) = vp_V (fs0 9) j := by decide +kernel
theorem in_X8 : ∀ w ∈ u_ws RX8 TX8 4, w ∈ G := fun w hw => List.mem_filter.mpr ⟨List.mem_append_left _ ((by decide +kernel : ∀ w ∈ u_ws RX8 TX8 4, w ∈ lw_tbl) w hw), (by decide +kernel : ∀ w ∈ u_ws RX8 TX8 4, goodWord w = true) w hw⟩
theorem df_X8 : ∀ j, j < 4 → defaultValue (tyX8 j) = vp_V (fs0 10) j := by decide +kernel
theorem in_X10 : ∀ w ∈ u_ws RX10 TX10 6, w ∈ G := fun w hw => List.mem_filter.mpr ⟨List.mem_append_left _ ((by decide +kernel : ∀ w ∈ u_ws RX10 TX10 6, w ∈ lw_tbl) w hw), (by decide +kernel : ∀ w ∈ u_ws RX10 TX10 6, goodWord w = true) w hw⟩
theorem df_X10 : ∀ j, j < 6 → defaultValue (tyX10 j) = vp_V (fs0 11) j := by decide +kernel
theorem in_X11 : ∀ w ∈ u_ws RX11 TX11 59, w ∈ G := inX11
theorem df_X11 : ∀ j, j < 59 → defaultValue (tyX11 j) = vp_V (fs0 12) j := by decide +kernel
