set_option maxHeartbeats 4000000 in
set_option maxRecDepth 100000 in
theorem c_X0_truthsChanged_g_0_0 (l : Launch) (D : va_G) (kI kJ kS : ClassId) (ho : Nat) (hr : Nat) (ao : Nat) (aa : Nat → Nat) (a_inputs : Int32) (a_remembered : Int32) (a_asks : Int32) (a_hours : Int32) (a_zeros : Nat → Int64) (a_ones : Nat → Int64) (a_alarms : Nat → Int32) (a_faults : Nat → Int32) (h_vals : Nat → SV) (so : Nat → Nat) (sa : Nat → Nat → Nat) (vs : Nat → SV) (hv : ∀ j, j < 0 → svEq (vs j) (h_vals j)) {r : Int32} (hrun : fX0_truthsChanged (nI 0) a_zeros a_ones h_vals = some r) : gI l D (tyL kI kJ kS) yX0_truthsChanged wsX0_truthsChanged (rmk 2 0 0 44) [.ref ho, .ref ao] ((wX0 ho hr (nI 0) ++ wX3 kI kJ ao aa a_inputs a_remembered a_asks a_hours a_zeros a_ones a_alarms a_faults) ++ (svA kS hr so 0 ++ svs kI kJ so sa vs 0)) (wX0 ho hr (nI 0) ++ wX3 kI kJ ao aa a_inputs a_remembered a_asks a_hours a_zeros a_ones a_alarms a_faults) (fun tl' => tl' = (svA kS hr so 0 ++ svs kI kJ so sa vs 0)) r := by
  rw [show nI 0 = (0 : Int32) from rfl] at hrun ⊢
  have hre : fX0_truthsChanged (0 : Int32) a_zeros a_ones h_vals = some (0 : Int32) := rfl
  rw [hre] at hrun
  obtain rfl := Option.some.inj hrun
  exact c_X0_tc_0_0 l D kI kJ kS ho hr ao aa a_inputs a_remembered a_asks a_hours a_zeros a_ones a_alarms a_faults so sa vs
set_option maxHeartbeats 4000000 in
set_option maxRecDepth 100000 in
theorem c_X0_truthsChanged_g_1_0 (l : Launch) (D : va_G) (kI kJ kS : ClassId) (ho : Nat) (hr : Nat) (ao : Nat) (aa : Nat → Nat) (a_inputs : Int32) (a_remembered : Int32) (a_asks : Int32) (a_hours : Int32) (a_zeros : Nat → Int64) (a_ones : Nat → Int64) (a_alarms : Nat → Int32) (a_faults : Nat → Int32) (h_vals : Nat → SV) (so : Nat → Nat) (sa : Nat → Nat → Nat) (vs : Nat → SV) (hv : ∀ j, j < 0 → svEq (vs j) (h_vals j)) {r : Int32} (hrun : fX0_truthsChanged (nI 0) a_zeros a_ones h_vals = some r) : gI l D (tyL kI kJ kS) yX0_truthsChanged wsX0_truthsChanged (rmk 2 0 0 44) [.ref ho, .ref ao] ((wX0 ho hr (nI 0) ++ wX3 kI kJ ao aa a_inputs a_remembered a_asks a_hours a_zeros a_ones a_alarms a_faults) ++ (svA kS hr so 1 ++ svs kI kJ so sa vs 1)) (wX0 ho hr (nI 0) ++ wX3 kI kJ ao aa a_inputs a_remembered a_asks a_hours a_zeros a_ones a_alarms a_faults) (fun tl' => tl' = (svA kS hr so 1 ++ svs kI kJ so sa vs 1)) r := by
  rw [show nI 0 = (0 : Int32) from rfl] at hrun ⊢
  have hre : fX0_truthsChanged (0 : Int32) a_zeros a_ones h_vals = some (0 : Int32) := rfl
  rw [hre] at hrun
  obtain rfl := Option.some.inj hrun
  exact c_X0_tc_1_0 l D kI kJ kS ho hr ao aa a_inputs a_remembered a_asks a_hours a_zeros a_ones a_alarms a_faults so sa vs
set_option maxHeartbeats 4000000 in
set_option maxRecDepth 100000 in
theorem c_X0_truthsChanged_g_1_1 (l : Launch) (D : va_G) (kI kJ kS : ClassId) (ho : Nat) (hr : Nat) (ao : Nat) (aa : Nat → Nat) (a_inputs : Int32) (a_remembered : Int32) (a_asks : Int32) (a_hours : Int32) (a_zeros : Nat → Int64) (a_ones : Nat → Int64) (a_alarms : Nat → Int32) (a_faults : Nat → Int32) (h_vals : Nat → SV) (so : Nat → Nat) (sa : Nat → Nat → Nat) (vs : Nat → SV) (hv : ∀ j, j < 1 → svEq (vs j) (h_vals j)) {r : Int32} (hrun : fX0_truthsChanged (nI 1) a_zeros a_ones h_vals = some r) : gI l D (tyL kI kJ kS) yX0_truthsChanged wsX0_truthsChanged (rmk 2 0 0 44) [.ref ho, .ref ao] ((wX0 ho hr (nI 1) ++ wX3 kI kJ ao aa a_inputs a_remembered a_asks a_hours a_zeros a_ones a_alarms a_faults) ++ (svA kS hr so 1 ++ svs kI kJ so sa vs 1)) (wX0 ho hr (nI 1) ++ wX3 kI kJ ao aa a_inputs a_remembered a_asks a_hours a_zeros a_ones a_alarms a_faults) (fun tl' => tl' = (svA kS hr so 1 ++ svs kI kJ so sa vs 1)) r := by
  rw [show nI 1 = (1 : Int32) from rfl] at hrun ⊢
  have hre : fX0_truthsChanged (1 : Int32) a_zeros a_ones h_vals = fX3_truthsOtherThan a_zeros a_ones (h_vals 0).2.2.2.2.1 (h_vals 0).2.2.2.2.2.1 := rfl
  rw [hre] at hrun
  exact c_X0_tc_1_1 l D kI kJ kS ho hr ao aa a_inputs a_remembered a_asks a_hours a_zeros a_ones a_alarms a_faults so sa vs ((tt_congr _ _ (hv 0 (by decide))).trans hrun)
set_option maxHeartbeats 4000000 in
set_option maxRecDepth 100000 in
theorem c_X0_truthsChanged_g_2_0 (l : Launch) (D : va_G) (kI kJ kS : ClassId) (ho : Nat) (hr : Nat) (ao : Nat) (aa : Nat → Nat) (a_inputs : Int32) (a_remembered : Int32) (a_asks : Int32) (a_hours : Int32) (a_zeros : Nat → Int64) (a_ones : Nat → Int64) (a_alarms : Nat → Int32) (a_faults : Nat → Int32) (h_vals : Nat → SV) (so : Nat → Nat) (sa : Nat → Nat → Nat) (vs : Nat → SV) (hv : ∀ j, j < 0 → svEq (vs j) (h_vals j)) {r : Int32} (hrun : fX0_truthsChanged (nI 0) a_zeros a_ones h_vals = some r) : gI l D (tyL kI kJ kS) yX0_truthsChanged wsX0_truthsChanged (rmk 2 0 0 44) [.ref ho, .ref ao] ((wX0 ho hr (nI 0) ++ wX3 kI kJ ao aa a_inputs a_remembered a_asks a_hours a_zeros a_ones a_alarms a_faults) ++ (svA kS hr so 2 ++ svs kI kJ so sa vs 2)) (wX0 ho hr (nI 0) ++ wX3 kI kJ ao aa a_inputs a_remembered a_asks a_hours a_zeros a_ones a_alarms a_faults) (fun tl' => tl' = (svA kS hr so 2 ++ svs kI kJ so sa vs 2)) r := by
  rw [show nI 0 = (0 : Int32) from rfl] at hrun ⊢
  have hre : fX0_truthsChanged (0 : Int32) a_zeros a_ones h_vals = some (0 : Int32) := rfl
  rw [hre] at hrun
  obtain rfl := Option.some.inj hrun
  exact c_X0_tc_2_0 l D kI kJ kS ho hr ao aa a_inputs a_remembered a_asks a_hours a_zeros a_ones a_alarms a_faults so sa vs
set_option maxHeartbeats 4000000 in
set_option maxRecDepth 100000 in
theorem c_X0_truthsChanged_g_2_1 (l : Launch) (D : va_G) (kI kJ kS : ClassId) (ho : Nat) (hr : Nat) (ao : Nat) (aa : Nat → Nat) (a_inputs : Int32) (a_remembered : Int32) (a_asks : Int32) (a_hours : Int32) (a_zeros : Nat → Int64) (a_ones : Nat → Int64) (a_alarms : Nat → Int32) (a_faults : Nat → Int32) (h_vals : Nat → SV) (so : Nat → Nat) (sa : Nat → Nat → Nat) (vs : Nat → SV) (hv : ∀ j, j < 1 → svEq (vs j) (h_vals j)) {r : Int32} (hrun : fX0_truthsChanged (nI 1) a_zeros a_ones h_vals = some r) : gI l D (tyL kI kJ kS) yX0_truthsChanged wsX0_truthsChanged (rmk 2 0 0 44) [.ref ho, .ref ao] ((wX0 ho hr (nI 1) ++ wX3 kI kJ ao aa a_inputs a_remembered a_asks a_hours a_zeros a_ones a_alarms a_faults) ++ (svA kS hr so 2 ++ svs kI kJ so sa vs 2)) (wX0 ho hr (nI 1) ++ wX3 kI kJ ao aa a_inputs a_remembered a_asks a_hours a_zeros a_ones a_alarms a_faults) (fun tl' => tl' = (svA kS hr so 2 ++ svs kI kJ so sa vs 2)) r := by
  rw [show nI 1 = (1 : Int32) from rfl] at hrun ⊢
  have hre : fX0_truthsChanged (1 : Int32) a_zeros a_ones h_vals = fX3_truthsOtherThan a_zeros a_ones (h_vals 0).2.2.2.2.1 (h_vals 0).2.2.2.2.2.1 := rfl
  rw [hre] at hrun
  exact c_X0_tc_2_1 l D kI kJ kS ho hr ao aa a_inputs a_remembered a_asks a_hours a_zeros a_ones a_alarms a_faults so sa vs ((tt_congr _ _ (hv 0 (by decide))).trans hrun)
set_option maxHeartbeats 4000000 in
set_option maxRecDepth 100000 in
theorem c_X0_truthsChanged_g_2_2 (l : Launch) (D : va_G) (kI kJ kS : ClassId) (ho : Nat) (hr : Nat) (ao : Nat) (aa : Nat → Nat) (a_inputs : Int32) (a_remembered : Int32) (a_asks : Int32) (a_hours : Int32) (a_zeros : Nat → Int64) (a_ones : Nat → Int64) (a_alarms : Nat → Int32) (a_faults : Nat → Int32) (h_vals : Nat → SV) (so : Nat → Nat) (sa : Nat → Nat → Nat) (vs : Nat → SV) (hv : ∀ j, j < 2 → svEq (vs j) (h_vals j)) {r : Int32} (hrun : fX0_truthsChanged (nI 2) a_zeros a_ones h_vals = some r) : gI l D (tyL kI kJ kS) yX0_truthsChanged wsX0_truthsChanged (rmk 2 0 0 44) [.ref ho, .ref ao] ((wX0 ho hr (nI 2) ++ wX3 kI kJ ao aa a_inputs a_remembered a_asks a_hours a_zeros a_ones a_alarms a_faults) ++ (svA kS hr so 2 ++ svs kI kJ so sa vs 2)) (wX0 ho hr (nI 2) ++ wX3 kI kJ ao aa a_inputs a_remembered a_asks a_hours a_zeros a_ones a_alarms a_faults) (fun tl' => tl' = (svA kS hr so 2 ++ svs kI kJ so sa vs 2)) r := by
  rw [show nI 2 = (2 : Int32) from rfl] at hrun ⊢
  have hre : fX0_truthsChanged (2 : Int32) a_zeros a_ones h_vals = fX3_truthsOtherThan a_zeros a_ones (h_vals 1).2.2.2.2.1 (h_vals 1).2.2.2.2.2.1 := rfl
  rw [hre] at hrun
  exact c_X0_tc_2_2 l D kI kJ kS ho hr ao aa a_inputs a_remembered a_asks a_hours a_zeros a_ones a_alarms a_faults so sa vs ((tt_congr _ _ (hv 1 (by decide))).trans hrun)
set_option maxHeartbeats 4000000 in
set_option maxRecDepth 100000 in
theorem c_X0_truthsChanged_g_3_0 (l : Launch) (D : va_G) (kI kJ kS : ClassId) (ho : Nat) (hr : Nat) (ao : Nat) (aa : Nat → Nat) (a_inputs : Int32) (a_remembered : Int32) (a_asks : Int32) (a_hours : Int32) (a_zeros : Nat → Int64) (a_ones : Nat → Int64) (a_alarms : Nat → Int32) (a_faults : Nat → Int32) (h_vals : Nat → SV) (so : Nat → Nat) (sa : Nat → Nat → Nat) (vs : Nat → SV) (hv : ∀ j, j < 0 → svEq (vs j) (h_vals j)) {r : Int32} (hrun : fX0_truthsChanged (nI 0) a_zeros a_ones h_vals = some r) : gI l D (tyL kI kJ kS) yX0_truthsChanged wsX0_truthsChanged (rmk 2 0 0 44) [.ref ho, .ref ao] ((wX0 ho hr (nI 0) ++ wX3 kI kJ ao aa a_inputs a_remembered a_asks a_hours a_zeros a_ones a_alarms a_faults) ++ (svA kS hr so 3 ++ svs kI kJ so sa vs 3)) (wX0 ho hr (nI 0) ++ wX3 kI kJ ao aa a_inputs a_remembered a_asks a_hours a_zeros a_ones a_alarms a_faults) (fun tl' => tl' = (svA kS hr so 3 ++ svs kI kJ so sa vs 3)) r := by
  rw [show nI 0 = (0 : Int32) from rfl] at hrun ⊢
  have hre : fX0_truthsChanged (0 : Int32) a_zeros a_ones h_vals = some (0 : Int32) := rfl
  rw [hre] at hrun
  obtain rfl := Option.some.inj hrun
  exact c_X0_tc_3_0 l D kI kJ kS ho hr ao aa a_inputs a_remembered a_asks a_hours a_zeros a_ones a_alarms a_faults so sa vs
set_option maxHeartbeats 4000000 in
set_option maxRecDepth 100000 in
theorem c_X0_truthsChanged_g_3_1 (l : Launch) (D : va_G) (kI kJ kS : ClassId) (ho : Nat) (hr : Nat) (ao : Nat) (aa : Nat → Nat) (a_inputs : Int32) (a_remembered : Int32) (a_asks : Int32) (a_hours : Int32) (a_zeros : Nat → Int64) (a_ones : Nat → Int64) (a_alarms : Nat → Int32) (a_faults : Nat → Int32) (h_vals : Nat → SV) (so : Nat → Nat) (sa : Nat → Nat → Nat) (vs : Nat → SV) (hv : ∀ j, j < 1 → svEq (vs j) (h_vals j)) {r : Int32} (hrun : fX0_truthsChanged (nI 1) a_zeros a_ones h_vals = some r) : gI l D (tyL kI kJ kS) yX0_truthsChanged wsX0_truthsChanged (rmk 2 0 0 44) [.ref ho, .ref ao] ((wX0 ho hr (nI 1) ++ wX3 kI kJ ao aa a_inputs a_remembered a_asks a_hours a_zeros a_ones a_alarms a_faults) ++ (svA kS hr so 3 ++ svs kI kJ so sa vs 3)) (wX0 ho hr (nI 1) ++ wX3 kI kJ ao aa a_inputs a_remembered a_asks a_hours a_zeros a_ones a_alarms a_faults) (fun tl' => tl' = (svA kS hr so 3 ++ svs kI kJ so sa vs 3)) r := by
  rw [show nI 1 = (1 : Int32) from rfl] at hrun ⊢
  have hre : fX0_truthsChanged (1 : Int32) a_zeros a_ones h_vals = fX3_truthsOtherThan a_zeros a_ones (h_vals 0).2.2.2.2.1 (h_vals 0).2.2.2.2.2.1 := rfl
  rw [hre] at hrun
  exact c_X0_tc_3_1 l D kI kJ kS ho hr ao aa a_inputs a_remembered a_asks a_hours a_zeros a_ones a_alarms a_faults so sa vs ((tt_congr _ _ (hv 0 (by decide))).trans hrun)
set_option maxHeartbeats 4000000 in
set_option maxRecDepth 100000 in
theorem c_X0_truthsChanged_g_3_2 (l : Launch) (D : va_G) (kI kJ kS : ClassId) (ho : Nat) (hr : Nat) (ao : Nat) (aa : Nat → Nat) (a_inputs : Int32) (a_remembered : Int32) (a_asks : Int32) (a_hours : Int32) (a_zeros : Nat → Int64) (a_ones : Nat → Int64) (a_alarms : Nat → Int32) (a_faults : Nat → Int32) (h_vals : Nat → SV) (so : Nat → Nat) (sa : Nat → Nat → Nat) (vs : Nat → SV) (hv : ∀ j, j < 2 → svEq (vs j) (h_vals j)) {r : Int32} (hrun : fX0_truthsChanged (nI 2) a_zeros a_ones h_vals = some r) : gI l D (tyL kI kJ kS) yX0_truthsChanged wsX0_truthsChanged (rmk 2 0 0 44) [.ref ho, .ref ao] ((wX0 ho hr (nI 2) ++ wX3 kI kJ ao aa a_inputs a_remembered a_asks a_hours a_zeros a_ones a_alarms a_faults) ++ (svA kS hr so 3 ++ svs kI kJ so sa vs 3)) (wX0 ho hr (nI 2) ++ wX3 kI kJ ao aa a_inputs a_remembered a_asks a_hours a_zeros a_ones a_alarms a_faults) (fun tl' => tl' = (svA kS hr so 3 ++ svs kI kJ so sa vs 3)) r := by
  rw [show nI 2 = (2 : Int32) from rfl] at hrun ⊢
  have hre : fX0_truthsChanged (2 : Int32) a_zeros a_ones h_vals = fX3_truthsOtherThan a_zeros a_ones (h_vals 1).2.2.2.2.1 (h_vals 1).2.2.2.2.2.1 := rfl
  rw [hre] at hrun
  exact c_X0_tc_3_2 l D kI kJ kS ho hr ao aa a_inputs a_remembered a_asks a_hours a_zeros a_ones a_alarms a_faults so sa vs ((tt_congr _ _ (hv 1 (by decide))).trans hrun)
set_option maxHeartbeats 4000000 in
set_option maxRecDepth 100000 in
theorem c_X0_truthsChanged_g_3_3 (l : Launch) (D : va_G) (kI kJ kS : ClassId) (ho : Nat) (hr : Nat) (ao : Nat) (aa : Nat → Nat) (a_inputs : Int32) (a_remembered : Int32) (a_asks : Int32) (a_hours : Int32) (a_zeros : Nat → Int64) (a_ones : Nat → Int64) (a_alarms : Nat → Int32) (a_faults : Nat → Int32) (h_vals : Nat → SV) (so : Nat → Nat) (sa : Nat → Nat → Nat) (vs : Nat → SV) (hv : ∀ j, j < 3 → svEq (vs j) (h_vals j)) {r : Int32} (hrun : fX0_truthsChanged (nI 3) a_zeros a_ones h_vals = some r) : gI l D (tyL kI kJ kS) yX0_truthsChanged wsX0_truthsChanged (rmk 2 0 0 44) [.ref ho, .ref ao] ((wX0 ho hr (nI 3) ++ wX3 kI kJ ao aa a_inputs a_remembered a_asks a_hours a_zeros a_ones a_alarms a_faults) ++ (svA kS hr so 3 ++ svs kI kJ so sa vs 3)) (wX0 ho hr (nI 3) ++ wX3 kI kJ ao aa a_inputs a_remembered a_asks a_hours a_zeros a_ones a_alarms a_faults) (fun tl' => tl' = (svA kS hr so 3 ++ svs kI kJ so sa vs 3)) r := by
  rw [show nI 3 = (3 : Int32) from rfl] at hrun ⊢
  have hre : fX0_truthsChanged (3 : Int32) a_zeros a_ones h_vals = fX3_truthsOtherThan a_zeros a_ones (h_vals 2).2.2.2.2.1 (h_vals 2).2.2.2.2.2.1 := rfl
  rw [hre] at hrun
  exact c_X0_tc_3_3 l D kI kJ kS ho hr ao aa a_inputs a_remembered a_asks a_hours a_zeros a_ones a_alarms a_faults so sa vs ((tt_congr _ _ (hv 2 (by decide))).trans hrun)
