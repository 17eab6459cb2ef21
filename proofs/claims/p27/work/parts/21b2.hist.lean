set_option maxHeartbeats 4000000 in
set_option maxRecDepth 100000 in
theorem c_X0_keep_g_5_0 (l : Launch) (D : va_G) (kI kJ kS : ClassId) (ho : Nat) (hr : Nat) (ao : Nat) (aa : Nat → Nat) (a_inputs : Int32) (a_remembered : Int32) (a_asks : Int32) (a_hours : Int32) (a_zeros : Nat → Int64) (a_ones : Nat → Int64) (a_alarms : Nat → Int32) (a_faults : Nat → Int32) (h_vals : Nat → SV) (so : Nat → Nat) (sa : Nat → Nat → Nat) (vs : Nat → SV) (hv : ∀ j, j < 0 → svEq (vs j) (h_vals j)) {r : Int32 × (Nat → SV)} (hrun : fX0_keep (nI 0) a_inputs a_remembered a_asks a_hours a_zeros a_ones a_alarms a_faults h_vals = some r) : gV l D (tyL kI kJ kS) yX0_keep wsX0_keep (rmk 2 5 24 32) [.ref ho, .ref ao] ((wX0 ho hr (nI 0) ++ wX3 kI kJ ao aa a_inputs a_remembered a_asks a_hours a_zeros a_ones a_alarms a_faults) ++ (svA kS hr so 5 ++ svs kI kJ so sa vs 5)) (wX0 ho hr r.1 ++ wX3 kI kJ ao aa a_inputs a_remembered a_asks a_hours a_zeros a_ones a_alarms a_faults) (TL kI kJ kS hr r.1 r.2) := by
  rw [show nI 0 = (0 : Int32) from rfl] at hrun ⊢
  have hre : fX0_keep (0 : Int32) a_inputs a_remembered a_asks a_hours a_zeros a_ones a_alarms a_faults h_vals = some ((1 : Int32), vup h_vals 0 (a_inputs, a_remembered, a_asks, a_hours, a_zeros, a_ones, a_alarms, a_faults)) := rfl
  rw [hre] at hrun
  obtain rfl := Option.some.inj hrun
  exact c_X0_keep_5_0 l D kI kJ kS ho hr ao aa a_inputs a_remembered a_asks a_hours a_zeros a_ones a_alarms a_faults so sa vs h_vals hv
set_option maxHeartbeats 4000000 in
set_option maxRecDepth 100000 in
theorem c_X0_keep_g_5_1 (l : Launch) (D : va_G) (kI kJ kS : ClassId) (ho : Nat) (hr : Nat) (ao : Nat) (aa : Nat → Nat) (a_inputs : Int32) (a_remembered : Int32) (a_asks : Int32) (a_hours : Int32) (a_zeros : Nat → Int64) (a_ones : Nat → Int64) (a_alarms : Nat → Int32) (a_faults : Nat → Int32) (h_vals : Nat → SV) (so : Nat → Nat) (sa : Nat → Nat → Nat) (vs : Nat → SV) (hv : ∀ j, j < 1 → svEq (vs j) (h_vals j)) {r : Int32 × (Nat → SV)} (hrun : fX0_keep (nI 1) a_inputs a_remembered a_asks a_hours a_zeros a_ones a_alarms a_faults h_vals = some r) : gV l D (tyL kI kJ kS) yX0_keep wsX0_keep (rmk 2 5 24 32) [.ref ho, .ref ao] ((wX0 ho hr (nI 1) ++ wX3 kI kJ ao aa a_inputs a_remembered a_asks a_hours a_zeros a_ones a_alarms a_faults) ++ (svA kS hr so 5 ++ svs kI kJ so sa vs 5)) (wX0 ho hr r.1 ++ wX3 kI kJ ao aa a_inputs a_remembered a_asks a_hours a_zeros a_ones a_alarms a_faults) (TL kI kJ kS hr r.1 r.2) := by
  rw [show nI 1 = (1 : Int32) from rfl] at hrun ⊢
  have hre : fX0_keep (1 : Int32) a_inputs a_remembered a_asks a_hours a_zeros a_ones a_alarms a_faults h_vals = some ((2 : Int32), vup h_vals 1 (a_inputs, a_remembered, a_asks, a_hours, a_zeros, a_ones, a_alarms, a_faults)) := rfl
  rw [hre] at hrun
  obtain rfl := Option.some.inj hrun
  exact c_X0_keep_5_1 l D kI kJ kS ho hr ao aa a_inputs a_remembered a_asks a_hours a_zeros a_ones a_alarms a_faults so sa vs h_vals hv
set_option maxHeartbeats 4000000 in
set_option maxRecDepth 100000 in
theorem c_X0_keep_g_5_2 (l : Launch) (D : va_G) (kI kJ kS : ClassId) (ho : Nat) (hr : Nat) (ao : Nat) (aa : Nat → Nat) (a_inputs : Int32) (a_remembered : Int32) (a_asks : Int32) (a_hours : Int32) (a_zeros : Nat → Int64) (a_ones : Nat → Int64) (a_alarms : Nat → Int32) (a_faults : Nat → Int32) (h_vals : Nat → SV) (so : Nat → Nat) (sa : Nat → Nat → Nat) (vs : Nat → SV) (hv : ∀ j, j < 2 → svEq (vs j) (h_vals j)) {r : Int32 × (Nat → SV)} (hrun : fX0_keep (nI 2) a_inputs a_remembered a_asks a_hours a_zeros a_ones a_alarms a_faults h_vals = some r) : gV l D (tyL kI kJ kS) yX0_keep wsX0_keep (rmk 2 5 24 32) [.ref ho, .ref ao] ((wX0 ho hr (nI 2) ++ wX3 kI kJ ao aa a_inputs a_remembered a_asks a_hours a_zeros a_ones a_alarms a_faults) ++ (svA kS hr so 5 ++ svs kI kJ so sa vs 5)) (wX0 ho hr r.1 ++ wX3 kI kJ ao aa a_inputs a_remembered a_asks a_hours a_zeros a_ones a_alarms a_faults) (TL kI kJ kS hr r.1 r.2) := by
  rw [show nI 2 = (2 : Int32) from rfl] at hrun ⊢
  have hre : fX0_keep (2 : Int32) a_inputs a_remembered a_asks a_hours a_zeros a_ones a_alarms a_faults h_vals = some ((3 : Int32), vup h_vals 2 (a_inputs, a_remembered, a_asks, a_hours, a_zeros, a_ones, a_alarms, a_faults)) := rfl
  rw [hre] at hrun
  obtain rfl := Option.some.inj hrun
  exact c_X0_keep_5_2 l D kI kJ kS ho hr ao aa a_inputs a_remembered a_asks a_hours a_zeros a_ones a_alarms a_faults so sa vs h_vals hv
set_option maxHeartbeats 4000000 in
set_option maxRecDepth 100000 in
theorem c_X0_keep_g_5_3 (l : Launch) (D : va_G) (kI kJ kS : ClassId) (ho : Nat) (hr : Nat) (ao : Nat) (aa : Nat → Nat) (a_inputs : Int32) (a_remembered : Int32) (a_asks : Int32) (a_hours : Int32) (a_zeros : Nat → Int64) (a_ones : Nat → Int64) (a_alarms : Nat → Int32) (a_faults : Nat → Int32) (h_vals : Nat → SV) (so : Nat → Nat) (sa : Nat → Nat → Nat) (vs : Nat → SV) (hv : ∀ j, j < 3 → svEq (vs j) (h_vals j)) {r : Int32 × (Nat → SV)} (hrun : fX0_keep (nI 3) a_inputs a_remembered a_asks a_hours a_zeros a_ones a_alarms a_faults h_vals = some r) : gV l D (tyL kI kJ kS) yX0_keep wsX0_keep (rmk 2 5 24 32) [.ref ho, .ref ao] ((wX0 ho hr (nI 3) ++ wX3 kI kJ ao aa a_inputs a_remembered a_asks a_hours a_zeros a_ones a_alarms a_faults) ++ (svA kS hr so 5 ++ svs kI kJ so sa vs 5)) (wX0 ho hr r.1 ++ wX3 kI kJ ao aa a_inputs a_remembered a_asks a_hours a_zeros a_ones a_alarms a_faults) (TL kI kJ kS hr r.1 r.2) := by
  rw [show nI 3 = (3 : Int32) from rfl] at hrun ⊢
  have hre : fX0_keep (3 : Int32) a_inputs a_remembered a_asks a_hours a_zeros a_ones a_alarms a_faults h_vals = some ((4 : Int32), vup h_vals 3 (a_inputs, a_remembered, a_asks, a_hours, a_zeros, a_ones, a_alarms, a_faults)) := rfl
  rw [hre] at hrun
  obtain rfl := Option.some.inj hrun
  exact c_X0_keep_5_3 l D kI kJ kS ho hr ao aa a_inputs a_remembered a_asks a_hours a_zeros a_ones a_alarms a_faults so sa vs h_vals hv
set_option maxHeartbeats 4000000 in
set_option maxRecDepth 100000 in
theorem c_X0_keep_g_5_4 (l : Launch) (D : va_G) (kI kJ kS : ClassId) (ho : Nat) (hr : Nat) (ao : Nat) (aa : Nat → Nat) (a_inputs : Int32) (a_remembered : Int32) (a_asks : Int32) (a_hours : Int32) (a_zeros : Nat → Int64) (a_ones : Nat → Int64) (a_alarms : Nat → Int32) (a_faults : Nat → Int32) (h_vals : Nat → SV) (so : Nat → Nat) (sa : Nat → Nat → Nat) (vs : Nat → SV) (hv : ∀ j, j < 4 → svEq (vs j) (h_vals j)) {r : Int32 × (Nat → SV)} (hrun : fX0_keep (nI 4) a_inputs a_remembered a_asks a_hours a_zeros a_ones a_alarms a_faults h_vals = some r) : gV l D (tyL kI kJ kS) yX0_keep wsX0_keep (rmk 2 5 24 32) [.ref ho, .ref ao] ((wX0 ho hr (nI 4) ++ wX3 kI kJ ao aa a_inputs a_remembered a_asks a_hours a_zeros a_ones a_alarms a_faults) ++ (svA kS hr so 5 ++ svs kI kJ so sa vs 5)) (wX0 ho hr r.1 ++ wX3 kI kJ ao aa a_inputs a_remembered a_asks a_hours a_zeros a_ones a_alarms a_faults) (TL kI kJ kS hr r.1 r.2) := by
  rw [show nI 4 = (4 : Int32) from rfl] at hrun ⊢
  have hre : fX0_keep (4 : Int32) a_inputs a_remembered a_asks a_hours a_zeros a_ones a_alarms a_faults h_vals = some ((5 : Int32), vup h_vals 4 (a_inputs, a_remembered, a_asks, a_hours, a_zeros, a_ones, a_alarms, a_faults)) := rfl
  rw [hre] at hrun
  obtain rfl := Option.some.inj hrun
  exact c_X0_keep_5_4 l D kI kJ kS ho hr ao aa a_inputs a_remembered a_asks a_hours a_zeros a_ones a_alarms a_faults so sa vs h_vals hv
set_option maxHeartbeats 4000000 in
set_option maxRecDepth 100000 in
theorem c_X0_keep_g_5_5 (l : Launch) (D : va_G) (kI kJ kS : ClassId) (ho : Nat) (hr : Nat) (ao : Nat) (aa : Nat → Nat) (a_inputs : Int32) (a_remembered : Int32) (a_asks : Int32) (a_hours : Int32) (a_zeros : Nat → Int64) (a_ones : Nat → Int64) (a_alarms : Nat → Int32) (a_faults : Nat → Int32) (h_vals : Nat → SV) (so : Nat → Nat) (sa : Nat → Nat → Nat) (vs : Nat → SV) (hv : ∀ j, j < 5 → svEq (vs j) (h_vals j)) {r : Int32 × (Nat → SV)} (hrun : fX0_keep (nI 5) a_inputs a_remembered a_asks a_hours a_zeros a_ones a_alarms a_faults h_vals = some r) : gV l D (tyL kI kJ kS) yX0_keep wsX0_keep (rmk 2 5 24 32) [.ref ho, .ref ao] ((wX0 ho hr (nI 5) ++ wX3 kI kJ ao aa a_inputs a_remembered a_asks a_hours a_zeros a_ones a_alarms a_faults) ++ (svA kS hr so 5 ++ svs kI kJ so sa vs 5)) (wX0 ho hr r.1 ++ wX3 kI kJ ao aa a_inputs a_remembered a_asks a_hours a_zeros a_ones a_alarms a_faults) (TL kI kJ kS hr r.1 r.2) := by
  rw [show nI 5 = (5 : Int32) from rfl] at hrun ⊢
  have hre : fX0_keep (5 : Int32) a_inputs a_remembered a_asks a_hours a_zeros a_ones a_alarms a_faults h_vals = some ((6 : Int32), vup h_vals 5 (a_inputs, a_remembered, a_asks, a_hours, a_zeros, a_ones, a_alarms, a_faults)) := rfl
  rw [hre] at hrun
  obtain rfl := Option.some.inj hrun
  exact c_X0_keep_5_5 l D kI kJ kS ho hr ao aa a_inputs a_remembered a_asks a_hours a_zeros a_ones a_alarms a_faults so sa vs h_vals hv
