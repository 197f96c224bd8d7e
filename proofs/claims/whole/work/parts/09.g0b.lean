/-! ===== BEGIN the words of the law in the tables, further ===== -/
set_option maxRecDepth 20000 in
theorem wi_29 : ∀ w ∈ wsL_law0_r29, w ∈ lw_tbl := fun w h => (goodIn_p wsL_law0_r29 [777, 780, 783, 789, 793] (by decide +kernel) (by decide +kernel) w h).1
set_option maxRecDepth 20000 in
theorem wi_30 : ∀ w ∈ wsL_law0_r30, w ∈ lw_tbl := fun w h => (goodIn_p wsL_law0_r30 [797, 801, 805, 809, 813, 817] (by decide +kernel) (by decide +kernel) w h).1
set_option maxRecDepth 20000 in
theorem wi_31 : ∀ w ∈ wsL_law0_r31, w ∈ lw_tbl := fun w h => (goodIn_p wsL_law0_r31 [821, 825, 1490, 1494, 1498, 1502, 1505] (by decide +kernel) (by decide +kernel) w h).1
set_option maxRecDepth 20000 in
theorem wi_32 : ∀ w ∈ wsL_law0_r32, w ∈ lw_tbl := fun w h => (goodIn_p wsL_law0_r32 [1509, 1513, 1517, 1521, 1525, 1529] (by decide +kernel) (by decide +kernel) w h).1
set_option maxRecDepth 20000 in
theorem wi_33 : ∀ w ∈ wsL_law0_r33, w ∈ lw_tbl := fun w h => (goodIn_p wsL_law0_r33 [1533, 1537, 1133] (by decide +kernel) (by decide +kernel) w h).1
set_option maxRecDepth 20000 in
theorem wi_34 : ∀ w ∈ wsL_law0_r34, w ∈ lw_tbl := fun w h => (goodIn_p wsL_law0_r34 [1199, 1203, 1541, 1545, 1549, 1553] (by decide +kernel) (by decide +kernel) w h).1
set_option maxRecDepth 20000 in
theorem wi_35 : ∀ w ∈ wsL_law0_r35, w ∈ lw_tbl := fun w h => (goodIn_p wsL_law0_r35 [1325, 1210, 1215, 1557] (by decide +kernel) (by decide +kernel) w h).1
set_option maxRecDepth 20000 in
theorem wi_36 : ∀ w ∈ wsL_law0_r36, w ∈ lw_tbl := fun w h => (goodIn_p wsL_law0_r36 [1561, 829, 1565, 834, 1569, 840] (by decide +kernel) (by decide +kernel) w h).1
set_option maxRecDepth 20000 in
theorem wi_37 : ∀ w ∈ wsL_law0_r37, w ∈ lw_tbl := fun w h => (goodIn_p wsL_law0_r37 [843, 1573, 847, 850, 853, 1577, 857] (by decide +kernel) (by decide +kernel) w h).1
set_option maxRecDepth 20000 in
theorem wi_38 : ∀ w ∈ wsL_law0_r38, w ∈ lw_tbl := fun w h => (goodIn_p wsL_law0_r38 [861, 1581, 1586, 1589, 866, 869] (by decide +kernel) (by decide +kernel) w h).1
set_option maxRecDepth 20000 in
theorem wi_39 : ∀ w ∈ wsL_law0_r39, w ∈ lw_tbl := fun w h => (goodIn_p wsL_law0_r39 [1593, 873, 877, 881, 1597, 885] (by decide +kernel) (by decide +kernel) w h).1
set_option maxRecDepth 20000 in
theorem wi_40 : ∀ w ∈ wsL_law0_r40, w ∈ lw_tbl := fun w h => (goodIn_p wsL_law0_r40 [1601, 890, 894, 1605, 898] (by decide +kernel) (by decide +kernel) w h).1
set_option maxRecDepth 20000 in
theorem wi_41 : ∀ w ∈ wsL_law0_r41, w ∈ lw_tbl := fun w h => (goodIn_p wsL_law0_r41 [902, 1609, 907, 1613, 911, 915] (by decide +kernel) (by decide +kernel) w h).1
set_option maxRecDepth 20000 in
theorem wi_42 : ∀ w ∈ wsL_law0_r42, w ∈ lw_tbl := fun w h => (goodIn_p wsL_law0_r42 [919, 1617, 924, 928, 933] (by decide +kernel) (by decide +kernel) w h).1
set_option maxRecDepth 20000 in
theorem wi_43 : ∀ w ∈ wsL_law0_r43, w ∈ lw_tbl := fun w h => (goodIn_p wsL_law0_r43 [937, 941, 944, 948, 952] (by decide +kernel) (by decide +kernel) w h).1
set_option maxRecDepth 20000 in
theorem wi_44 : ∀ w ∈ wsL_law0_r44, w ∈ lw_tbl := fun w h => (goodIn_p wsL_law0_r44 [958, 962, 1621, 1625, 1629, 1633] (by decide +kernel) (by decide +kernel) w h).1
set_option maxRecDepth 20000 in
theorem wi_45 : ∀ w ∈ wsL_law0_r45, w ∈ lw_tbl := fun w h => (goodIn_p wsL_law0_r45 [967, 971, 975, 981] (by decide +kernel) (by decide +kernel) w h).1
set_option maxRecDepth 20000 in
theorem wi_46 : ∀ w ∈ wsL_law0_r46, w ∈ lw_tbl := fun w h => (goodIn_p wsL_law0_r46 [987, 992, 997, 1001] (by decide +kernel) (by decide +kernel) w h).1
set_option maxRecDepth 20000 in
theorem wi_47 : ∀ w ∈ wsL_law0_r47, w ∈ lw_tbl := fun w h => (goodIn_p wsL_law0_r47 [1662, 1642, 1646, 1654, 1658, 1666] (by decide +kernel) (by decide +kernel) w h).1
set_option maxRecDepth 20000 in
theorem wi_48 : ∀ w ∈ wsL_law0_r48, w ∈ lw_tbl := fun w h => (goodIn_p wsL_law0_r48 [1005, 1009] (by decide +kernel) (by decide +kernel) w h).1
set_option maxRecDepth 20000 in
theorem wi_49 : ∀ w ∈ wsL_law0_r49, w ∈ lw_tbl := fun w h => (goodIn_p wsL_law0_r49 [1015, 1018, 1022, 1027, 1032, 1036] (by decide +kernel) (by decide +kernel) w h).1
set_option maxRecDepth 20000 in
theorem wi_50 : ∀ w ∈ wsL_law0_r50, w ∈ lw_tbl := fun w h => (goodIn_p wsL_law0_r50 [1040, 1670, 1674, 1678, 1044, 1048] (by decide +kernel) (by decide +kernel) w h).1
set_option maxRecDepth 20000 in
theorem wi_51 : ∀ w ∈ wsL_law0_r51, w ∈ lw_tbl := fun w h => (goodIn_p wsL_law0_r51 [1054, 1058, 1062, 1069] (by decide +kernel) (by decide +kernel) w h).1
set_option maxRecDepth 20000 in
theorem wi_52 : ∀ w ∈ wsL_law0_r52, w ∈ lw_tbl := fun w h => (goodIn_p wsL_law0_r52 [1682, 1686, 1074, 1077, 1080, 1690, 1084] (by decide +kernel) (by decide +kernel) w h).1
set_option maxRecDepth 20000 in
theorem wi_53 : ∀ w ∈ wsL_law0_r53, w ∈ lw_tbl := fun w h => (goodIn_p wsL_law0_r53 [1090, 1094, 1100, 1638, 1650] (by decide +kernel) (by decide +kernel) w h).1
set_option maxRecDepth 20000 in
theorem wi_54 : ∀ w ∈ wsL_law0_r54, w ∈ lw_tbl := fun w h => (goodIn_p wsL_law0_r54 [1104, 1108, 1112, 1694, 1698, 1116] (by decide +kernel) (by decide +kernel) w h).1
set_option maxRecDepth 20000 in
theorem wi_55 : ∀ w ∈ wsL_law0_r55, w ∈ lw_tbl := fun w h => (goodIn_p wsL_law0_r55 [1120, 1702, 1706, 1125, 1710] (by decide +kernel) (by decide +kernel) w h).1
set_option maxRecDepth 20000 in
theorem wi_wsX100 : ∀ w ∈ wsX100, w ∈ lw_tbl := by decide +kernel
set_option maxRecDepth 20000 in
theorem wi_wsX110 : ∀ w ∈ wsX110, w ∈ lw_tbl := by decide +kernel
set_option maxRecDepth 20000 in
theorem wi_wsX50 : ∀ w ∈ wsX50, w ∈ lw_tbl := by decide +kernel
set_option maxRecDepth 20000 in
theorem wi_wsX80 : ∀ w ∈ wsX80, w ∈ lw_tbl := by decide +kernel
set_option maxRecDepth 20000 in
theorem wi_wsX60 : ∀ w ∈ wsX60, w ∈ lw_tbl := by decide +kernel
set_option maxRecDepth 20000 in
theorem wi_wsX40 : ∀ w ∈ wsX40, w ∈ lw_tbl := by decide +kernel
set_option maxRecDepth 20000 in
theorem wi_wsX30 : ∀ w ∈ wsX30, w ∈ lw_tbl := by decide +kernel
set_option maxRecDepth 20000 in
theorem wi_wsX90 : ∀ w ∈ wsX90, w ∈ lw_tbl := by decide +kernel
set_option maxRecDepth 20000 in
theorem wi_wsX20 : ∀ w ∈ wsX20, w ∈ lw_tbl := by decide +kernel
set_option maxRecDepth 20000 in
theorem wi_wsX10 : ∀ w ∈ wsX10, w ∈ lw_tbl := by decide +kernel
set_option maxRecDepth 20000 in
theorem wi_wsX00 : ∀ w ∈ wsX00, w ∈ lw_tbl := by decide +kernel
theorem wsL_law_in0 : ∀ w ∈ wsL_law0, w ∈ lw_tbl := by
  unfold wsL_law0
  exact List.forall_mem_append.mpr ⟨List.forall_mem_append.mpr ⟨List.forall_mem_append.mpr ⟨List.forall_mem_append.mpr ⟨List.forall_mem_append.mpr ⟨List.forall_mem_append.mpr ⟨List.forall_mem_append.mpr ⟨List.forall_mem_append.mpr ⟨List.forall_mem_append.mpr ⟨List.forall_mem_append.mpr ⟨List.forall_mem_append.mpr ⟨List.forall_mem_append.mpr ⟨List.forall_mem_append.mpr ⟨wi_1, List.forall_mem_append.mpr ⟨wi_2, List.forall_mem_append.mpr ⟨wi_3, List.forall_mem_append.mpr ⟨wi_4, List.forall_mem_append.mpr ⟨wi_5, List.forall_mem_append.mpr ⟨wi_6, List.forall_mem_append.mpr ⟨wi_7, List.forall_mem_append.mpr ⟨wi_8, List.forall_mem_append.mpr ⟨wi_9, List.forall_mem_append.mpr ⟨wi_10, List.forall_mem_append.mpr ⟨wi_11, List.forall_mem_append.mpr ⟨wi_12, List.forall_mem_append.mpr ⟨wi_13, List.forall_mem_append.mpr ⟨wi_14, List.forall_mem_append.mpr ⟨wi_15, List.forall_mem_append.mpr ⟨wi_16, List.forall_mem_append.mpr ⟨wi_17, List.forall_mem_append.mpr ⟨wi_18, List.forall_mem_append.mpr ⟨wi_19, List.forall_mem_append.mpr ⟨wi_20, List.forall_mem_append.mpr ⟨wi_21, List.forall_mem_append.mpr ⟨wi_22, List.forall_mem_append.mpr ⟨wi_23, List.forall_mem_append.mpr ⟨wi_24, List.forall_mem_append.mpr ⟨wi_25, List.forall_mem_append.mpr ⟨wi_26, List.forall_mem_append.mpr ⟨wi_27, List.forall_mem_append.mpr ⟨wi_28, List.forall_mem_append.mpr ⟨wi_29, List.forall_mem_append.mpr ⟨wi_30, List.forall_mem_append.mpr ⟨wi_31, List.forall_mem_append.mpr ⟨wi_32, List.forall_mem_append.mpr ⟨wi_33, List.forall_mem_append.mpr ⟨wi_34, List.forall_mem_append.mpr ⟨wi_35, List.forall_mem_append.mpr ⟨wi_36, List.forall_mem_append.mpr ⟨wi_37, List.forall_mem_append.mpr ⟨wi_38, List.forall_mem_append.mpr ⟨wi_39, List.forall_mem_append.mpr ⟨wi_40, List.forall_mem_append.mpr ⟨wi_41, List.forall_mem_append.mpr ⟨wi_42, List.forall_mem_append.mpr ⟨wi_43, List.forall_mem_append.mpr ⟨wi_44, List.forall_mem_append.mpr ⟨wi_45, List.forall_mem_append.mpr ⟨wi_46, List.forall_mem_append.mpr ⟨wi_47, List.forall_mem_append.mpr ⟨wi_48, List.forall_mem_append.mpr ⟨wi_49, List.forall_mem_append.mpr ⟨wi_50, List.forall_mem_append.mpr ⟨wi_51, List.forall_mem_append.mpr ⟨wi_52, List.forall_mem_append.mpr ⟨wi_53, List.forall_mem_append.mpr ⟨wi_54, wi_55⟩⟩⟩⟩⟩⟩⟩⟩⟩⟩⟩⟩⟩⟩⟩⟩⟩⟩⟩⟩⟩⟩⟩⟩⟩⟩⟩⟩⟩⟩⟩⟩⟩⟩⟩⟩⟩⟩⟩⟩⟩⟩⟩⟩⟩⟩⟩⟩⟩⟩⟩⟩⟩⟩, wi_wsX100⟩, wi_wsX110⟩, wi_wsX50⟩, wi_wsX80⟩, wi_wsX60⟩, wi_wsX40⟩, wi_wsX30⟩, wi_wsX90⟩, wi_wsX20⟩, wi_wsX10⟩, wi_wsX00⟩, fun _ h => absurd h List.not_mem_nil⟩
theorem wsL_law_in : ∀ w ∈ wsL_law, w ∈ lw_tbl := fun w h => (List.mem_append.mp h).elim (fun h => wsL_law_in0 w h) (fun h => wsL_law_x0 w h)
/-! ===== END ===== -/
