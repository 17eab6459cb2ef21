set_option maxHeartbeats 4000000 in
set_option maxRecDepth 100000 in
theorem c_X0_keep (l : Launch) (D : va_G) (kI kJ kS : ClassId) (ho : Nat) (hr : Nat) (ao : Nat) (aa : Nat → Nat) (h_size : Int32) (a_inputs : Int32) (a_remembered : Int32) (a_asks : Int32) (a_hours : Int32) (a_zeros : Nat → Int64) (a_ones : Nat → Int64) (a_alarms : Nat → Int32) (a_faults : Nat → Int32) (h_vals : Nat → SV) {tl : va_W} (htl : TL kI kJ kS hr h_size h_vals tl) {r : Int32 × (Nat → SV)} (hrun : fX0_keep h_size a_inputs a_remembered a_asks a_hours a_zeros a_ones a_alarms a_faults h_vals = some r) : gV l D (tyL kI kJ kS) yX0_keep wsX0_keep (rmk 2 5 24 32) [.ref ho, .ref ao] ((wX0 ho hr h_size ++ wX3 kI kJ ao aa a_inputs a_remembered a_asks a_hours a_zeros a_ones a_alarms a_faults) ++ tl) (wX0 ho hr r.1 ++ wX3 kI kJ ao aa a_inputs a_remembered a_asks a_hours a_zeros a_ones a_alarms a_faults) (TL kI kJ kS hr r.1 r.2) := by
  obtain ⟨n, k, so, sa, vs, hn, hk, rfl, hv, rfl⟩ := htl
  rcases (show n = 0 ∨ n = 1 ∨ n = 2 ∨ n = 3 ∨ n = 4 ∨ n = 5 ∨ n = 6 from by omega) with rfl | rfl | rfl | rfl | rfl | rfl | rfl
  · obtain rfl : k = 0 := by omega
    exact c_X0_keep_g_0_0 l D kI kJ kS ho hr ao aa a_inputs a_remembered a_asks a_hours a_zeros a_ones a_alarms a_faults h_vals so sa vs hv hrun
  · rcases (show k = 0 ∨ k = 1 from by omega) with rfl | rfl
    · exact c_X0_keep_g_1_0 l D kI kJ kS ho hr ao aa a_inputs a_remembered a_asks a_hours a_zeros a_ones a_alarms a_faults h_vals so sa vs hv hrun
    · exact c_X0_keep_g_1_1 l D kI kJ kS ho hr ao aa a_inputs a_remembered a_asks a_hours a_zeros a_ones a_alarms a_faults h_vals so sa vs hv hrun
  · rcases (show k = 0 ∨ k = 1 ∨ k = 2 from by omega) with rfl | rfl | rfl
    · exact c_X0_keep_g_2_0 l D kI kJ kS ho hr ao aa a_inputs a_remembered a_asks a_hours a_zeros a_ones a_alarms a_faults h_vals so sa vs hv hrun
    · exact c_X0_keep_g_2_1 l D kI kJ kS ho hr ao aa a_inputs a_remembered a_asks a_hours a_zeros a_ones a_alarms a_faults h_vals so sa vs hv hrun
    · exact c_X0_keep_g_2_2 l D kI kJ kS ho hr ao aa a_inputs a_remembered a_asks a_hours a_zeros a_ones a_alarms a_faults h_vals so sa vs hv hrun
  · rcases (show k = 0 ∨ k = 1 ∨ k = 2 ∨ k = 3 from by omega) with rfl | rfl | rfl | rfl
    · exact c_X0_keep_g_3_0 l D kI kJ kS ho hr ao aa a_inputs a_remembered a_asks a_hours a_zeros a_ones a_alarms a_faults h_vals so sa vs hv hrun
    · exact c_X0_keep_g_3_1 l D kI kJ kS ho hr ao aa a_inputs a_remembered a_asks a_hours a_zeros a_ones a_alarms a_faults h_vals so sa vs hv hrun
    · exact c_X0_keep_g_3_2 l D kI kJ kS ho hr ao aa a_inputs a_remembered a_asks a_hours a_zeros a_ones a_alarms a_faults h_vals so sa vs hv hrun
    · exact c_X0_keep_g_3_3 l D kI kJ kS ho hr ao aa a_inputs a_remembered a_asks a_hours a_zeros a_ones a_alarms a_faults h_vals so sa vs hv hrun
  · rcases (show k = 0 ∨ k = 1 ∨ k = 2 ∨ k = 3 ∨ k = 4 from by omega) with rfl | rfl | rfl | rfl | rfl
    · exact c_X0_keep_g_4_0 l D kI kJ kS ho hr ao aa a_inputs a_remembered a_asks a_hours a_zeros a_ones a_alarms a_faults h_vals so sa vs hv hrun
    · exact c_X0_keep_g_4_1 l D kI kJ kS ho hr ao aa a_inputs a_remembered a_asks a_hours a_zeros a_ones a_alarms a_faults h_vals so sa vs hv hrun
    · exact c_X0_keep_g_4_2 l D kI kJ kS ho hr ao aa a_inputs a_remembered a_asks a_hours a_zeros a_ones a_alarms a_faults h_vals so sa vs hv hrun
    · exact c_X0_keep_g_4_3 l D kI kJ kS ho hr ao aa a_inputs a_remembered a_asks a_hours a_zeros a_ones a_alarms a_faults h_vals so sa vs hv hrun
    · exact c_X0_keep_g_4_4 l D kI kJ kS ho hr ao aa a_inputs a_remembered a_asks a_hours a_zeros a_ones a_alarms a_faults h_vals so sa vs hv hrun
  · rcases (show k = 0 ∨ k = 1 ∨ k = 2 ∨ k = 3 ∨ k = 4 ∨ k = 5 from by omega) with rfl | rfl | rfl | rfl | rfl | rfl
    · exact c_X0_keep_g_5_0 l D kI kJ kS ho hr ao aa a_inputs a_remembered a_asks a_hours a_zeros a_ones a_alarms a_faults h_vals so sa vs hv hrun
    · exact c_X0_keep_g_5_1 l D kI kJ kS ho hr ao aa a_inputs a_remembered a_asks a_hours a_zeros a_ones a_alarms a_faults h_vals so sa vs hv hrun
    · exact c_X0_keep_g_5_2 l D kI kJ kS ho hr ao aa a_inputs a_remembered a_asks a_hours a_zeros a_ones a_alarms a_faults h_vals so sa vs hv hrun
    · exact c_X0_keep_g_5_3 l D kI kJ kS ho hr ao aa a_inputs a_remembered a_asks a_hours a_zeros a_ones a_alarms a_faults h_vals so sa vs hv hrun
    · exact c_X0_keep_g_5_4 l D kI kJ kS ho hr ao aa a_inputs a_remembered a_asks a_hours a_zeros a_ones a_alarms a_faults h_vals so sa vs hv hrun
    · exact c_X0_keep_g_5_5 l D kI kJ kS ho hr ao aa a_inputs a_remembered a_asks a_hours a_zeros a_ones a_alarms a_faults h_vals so sa vs hv hrun
  · rcases (show k = 0 ∨ k = 1 ∨ k = 2 ∨ k = 3 ∨ k = 4 ∨ k = 5 ∨ k = 6 from by omega) with rfl | rfl | rfl | rfl | rfl | rfl | rfl
    · exact c_X0_keep_g_6_0 l D kI kJ kS ho hr ao aa a_inputs a_remembered a_asks a_hours a_zeros a_ones a_alarms a_faults h_vals so sa vs hv hrun
    · exact c_X0_keep_g_6_1 l D kI kJ kS ho hr ao aa a_inputs a_remembered a_asks a_hours a_zeros a_ones a_alarms a_faults h_vals so sa vs hv hrun
    · exact c_X0_keep_g_6_2 l D kI kJ kS ho hr ao aa a_inputs a_remembered a_asks a_hours a_zeros a_ones a_alarms a_faults h_vals so sa vs hv hrun
    · exact c_X0_keep_g_6_3 l D kI kJ kS ho hr ao aa a_inputs a_remembered a_asks a_hours a_zeros a_ones a_alarms a_faults h_vals so sa vs hv hrun
    · exact c_X0_keep_g_6_4 l D kI kJ kS ho hr ao aa a_inputs a_remembered a_asks a_hours a_zeros a_ones a_alarms a_faults h_vals so sa vs hv hrun
    · exact c_X0_keep_g_6_5 l D kI kJ kS ho hr ao aa a_inputs a_remembered a_asks a_hours a_zeros a_ones a_alarms a_faults h_vals so sa vs hv hrun
    · exact c_X0_keep_g_6_6 l D kI kJ kS ho hr ao aa a_inputs a_remembered a_asks a_hours a_zeros a_ones a_alarms a_faults h_vals so sa vs hv hrun
