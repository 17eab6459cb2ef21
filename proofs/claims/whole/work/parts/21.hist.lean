def fX0_bringBack (h_size : Int32) (a_inputs : Int32) (a_remembered : Int32) (a_asks : Int32) (a_hours : Int32) (a_zeros : Nat → Int64) (a_ones : Nat → Int64) (a_alarms : Nat → Int32) (a_faults : Nat → Int32) (h_vals : Nat → SV) : Option (Int32 × Int32 × Int32 × Int32 × Int32 × Int32 × (Nat → Int64) × (Nat → Int64) × (Nat → Int32) × (Nat → Int32)) :=
  if h_size ≤ 0 then some (0, h_size, a_inputs, a_remembered, a_asks, a_hours, a_zeros, a_ones, a_alarms, a_faults) else (fX3_copyFrom a_zeros a_ones a_alarms a_faults (h_vals (h_size - 1).toNatClampNeg).1 (h_vals (h_size - 1).toNatClampNeg).2.1 (h_vals (h_size - 1).toNatClampNeg).2.2.1 (h_vals (h_size - 1).toNatClampNeg).2.2.2.1 (h_vals (h_size - 1).toNatClampNeg).2.2.2.2.1 (h_vals (h_size - 1).toNatClampNeg).2.2.2.2.2.1 (h_vals (h_size - 1).toNatClampNeg).2.2.2.2.2.2.1 (h_vals (h_size - 1).toNatClampNeg).2.2.2.2.2.2.2).bind (fun q => some (1, h_size - 1, q.1, q.2.1, q.2.2.1, q.2.2.2.1, q.2.2.2.2.1, q.2.2.2.2.2.1, q.2.2.2.2.2.2.1, q.2.2.2.2.2.2.2))
def fX0_truthsChanged (h_size : Int32) (a_zeros a_ones : Nat → Int64) (h_vals : Nat → SV) : Option Int32 :=
  if h_size ≤ 0 then some 0 else fX3_truthsOtherThan a_zeros a_ones (h_vals (h_size - 1).toNatClampNeg).2.2.2.2.1 (h_vals (h_size - 1).toNatClampNeg).2.2.2.2.2.1
/-- four places of a row written -/
def upL4 (t : Nat → Int64) (x0 x1 x2 x3 : Int64) : Nat → Int64 := vp_updL (vp_updL (vp_updL (vp_updL t (0 : Int32).toNatClampNeg x0) ((0 : Int32) + 1).toNatClampNeg x1) ((0 : Int32) + 1 + 1).toNatClampNeg x2) ((0 : Int32) + 1 + 1 + 1).toNatClampNeg x3
def upI4 (t : Nat → Int32) (x0 x1 x2 x3 : Int32) : Nat → Int32 := upd (upd (upd (upd t (0 : Int32).toNatClampNeg x0) ((0 : Int32) + 1).toNatClampNeg x1) ((0 : Int32) + 1 + 1).toNatClampNeg x2) ((0 : Int32) + 1 + 1 + 1).toNatClampNeg x3
theorem cf_eval (tz to_ : Nat → Int64) (tA tf : Nat → Int32) (a_inputs : Int32) (a_remembered : Int32) (a_asks : Int32) (a_hours : Int32) (a_zeros : Nat → Int64) (a_ones : Nat → Int64) (a_alarms : Nat → Int32) (a_faults : Nat → Int32) : fX3_copyFrom tz to_ tA tf a_inputs a_remembered a_asks a_hours a_zeros a_ones a_alarms a_faults = some (a_inputs, a_remembered, a_asks, a_hours, upL4 tz (a_zeros 0) (a_zeros 1) (a_zeros 2) (a_zeros 3), upL4 to_ (a_ones 0) (a_ones 1) (a_ones 2) (a_ones 3), upI4 tA (a_alarms 0) (a_alarms 1) (a_alarms 2) (a_alarms 3), upI4 tf (a_faults 0) (a_faults 1) (a_faults 2) (a_faults 3)) := rfl
theorem cf_congr (tz to_ : Nat → Int64) (tA tf : Nat → Int32) {u v : SV} (h : svEq u v) : fX3_copyFrom tz to_ tA tf u.1 u.2.1 u.2.2.1 u.2.2.2.1 u.2.2.2.2.1 u.2.2.2.2.2.1 u.2.2.2.2.2.2.1 u.2.2.2.2.2.2.2 = fX3_copyFrom tz to_ tA tf v.1 v.2.1 v.2.2.1 v.2.2.2.1 v.2.2.2.2.1 v.2.2.2.2.2.1 v.2.2.2.2.2.2.1 v.2.2.2.2.2.2.2 := by
  obtain ⟨h1, h2, h3, h4, h5, h6, h7, h8⟩ := h
  rw [cf_eval, cf_eval, h1, h2, h3, h4, h5 0 (by decide), h5 1 (by decide), h5 2 (by decide), h5 3 (by decide), h6 0 (by decide), h6 1 (by decide), h6 2 (by decide), h6 3 (by decide), h7 0 (by decide), h7 1 (by decide), h7 2 (by decide), h7 3 (by decide), h8 0 (by decide), h8 1 (by decide), h8 2 (by decide), h8 3 (by decide)]
def tt4 (z0 z1 z2 z3 o0 o1 o2 o3 y0 y1 y2 y3 p0 p1 p2 p3 : Int64) : Option Int32 :=
  (fJ13_bitCount_95d88 ((o0 ^^^ p0) ||| (z0 ^^^ y0))).bind fun q0 => (fJ13_bitCount_95d88 ((o1 ^^^ p1) ||| (z1 ^^^ y1))).bind fun q1 => (fJ13_bitCount_95d88 ((o2 ^^^ p2) ||| (z2 ^^^ y2))).bind fun q2 => (fJ13_bitCount_95d88 ((o3 ^^^ p3) ||| (z3 ^^^ y3))).bind fun q3 => some (0 + q0 + q1 + q2 + q3)
theorem tt_eval (z o y p : Nat → Int64) : fX3_truthsOtherThan z o y p = tt4 (z 0) (z 1) (z 2) (z 3) (o 0) (o 1) (o 2) (o 3) (y 0) (y 1) (y 2) (y 3) (p 0) (p 1) (p 2) (p 3) := rfl
theorem tt_congr (z o : Nat → Int64) {u v : SV} (h : svEq u v) : fX3_truthsOtherThan z o u.2.2.2.2.1 u.2.2.2.2.2.1 = fX3_truthsOtherThan z o v.2.2.2.2.1 v.2.2.2.2.2.1 := by
  obtain ⟨h1, h2, h3, h4, h5, h6, h7, h8⟩ := h
  rw [tt_eval, tt_eval, h5 0 (by decide), h5 1 (by decide), h5 2 (by decide), h5 3 (by decide), h6 0 (by decide), h6 1 (by decide), h6 2 (by decide), h6 3 (by decide)]
set_option maxHeartbeats 4000000 in
set_option maxRecDepth 100000 in
theorem c_X0_keep (l : Launch) (D : va_G) (kI kJ kS : ClassId) (ho : Nat) (hr : Nat) (ao : Nat) (aa : Nat → Nat) (h_size : Int32) (a_inputs : Int32) (a_remembered : Int32) (a_asks : Int32) (a_hours : Int32) (a_zeros : Nat → Int64) (a_ones : Nat → Int64) (a_alarms : Nat → Int32) (a_faults : Nat → Int32) (h_vals : Nat → SV) {tl : va_W} (htl : TL kI kJ kS hr h_size h_vals tl) {r : Int32 × (Nat → SV)} (hrun : fX0_keep h_size a_inputs a_remembered a_asks a_hours a_zeros a_ones a_alarms a_faults h_vals = some r) : gV l D (tyL kI kJ kS) yX0_keep wsX0_keep (rmk 2 5 24 32) [.ref ho, .ref ao] ((wX0 ho hr h_size ++ wX3 kI kJ ao aa a_inputs a_remembered a_asks a_hours a_zeros a_ones a_alarms a_faults) ++ tl) (wX0 ho hr r.1 ++ wX3 kI kJ ao aa a_inputs a_remembered a_asks a_hours a_zeros a_ones a_alarms a_faults) (TL kI kJ kS hr r.1 r.2) := by
  obtain ⟨n, k, so, sa, vs, hn, hk, rfl, hv, rfl⟩ := htl
  rcases (show (n = 0 ∧ k = 0) ∨ (n = 1 ∧ k = 0) ∨ (n = 1 ∧ k = 1) ∨ (n = 2 ∧ k = 0) ∨ (n = 2 ∧ k = 1) ∨ (n = 2 ∧ k = 2) ∨ (n = 3 ∧ k = 0) ∨ (n = 3 ∧ k = 1) ∨ (n = 3 ∧ k = 2) ∨ (n = 3 ∧ k = 3) ∨ (n = 4 ∧ k = 0) ∨ (n = 4 ∧ k = 1) ∨ (n = 4 ∧ k = 2) ∨ (n = 4 ∧ k = 3) ∨ (n = 4 ∧ k = 4) ∨ (n = 5 ∧ k = 0) ∨ (n = 5 ∧ k = 1) ∨ (n = 5 ∧ k = 2) ∨ (n = 5 ∧ k = 3) ∨ (n = 5 ∧ k = 4) ∨ (n = 5 ∧ k = 5) ∨ (n = 6 ∧ k = 0) ∨ (n = 6 ∧ k = 1) ∨ (n = 6 ∧ k = 2) ∨ (n = 6 ∧ k = 3) ∨ (n = 6 ∧ k = 4) ∨ (n = 6 ∧ k = 5) ∨ (n = 6 ∧ k = 6) by omega) with ⟨rfl, rfl⟩ | ⟨rfl, rfl⟩ | ⟨rfl, rfl⟩ | ⟨rfl, rfl⟩ | ⟨rfl, rfl⟩ | ⟨rfl, rfl⟩ | ⟨rfl, rfl⟩ | ⟨rfl, rfl⟩ | ⟨rfl, rfl⟩ | ⟨rfl, rfl⟩ | ⟨rfl, rfl⟩ | ⟨rfl, rfl⟩ | ⟨rfl, rfl⟩ | ⟨rfl, rfl⟩ | ⟨rfl, rfl⟩ | ⟨rfl, rfl⟩ | ⟨rfl, rfl⟩ | ⟨rfl, rfl⟩ | ⟨rfl, rfl⟩ | ⟨rfl, rfl⟩ | ⟨rfl, rfl⟩ | ⟨rfl, rfl⟩ | ⟨rfl, rfl⟩ | ⟨rfl, rfl⟩ | ⟨rfl, rfl⟩ | ⟨rfl, rfl⟩ | ⟨rfl, rfl⟩ | ⟨rfl, rfl⟩
  · have hre : fX0_keep (nI 0) a_inputs a_remembered a_asks a_hours a_zeros a_ones a_alarms a_faults h_vals = some ((1 : Int32), vup h_vals 0 (a_inputs, a_remembered, a_asks, a_hours, a_zeros, a_ones, a_alarms, a_faults)) := rfl
    rw [hre] at hrun
    obtain rfl := Option.some.inj hrun
    exact c_X0_keep_0_0 l D kI kJ kS ho hr ao aa a_inputs a_remembered a_asks a_hours a_zeros a_ones a_alarms a_faults so sa vs h_vals hv
  · have hre : fX0_keep (nI 0) a_inputs a_remembered a_asks a_hours a_zeros a_ones a_alarms a_faults h_vals = some ((1 : Int32), vup h_vals 0 (a_inputs, a_remembered, a_asks, a_hours, a_zeros, a_ones, a_alarms, a_faults)) := rfl
    rw [hre] at hrun
    obtain rfl := Option.some.inj hrun
    exact c_X0_keep_1_0 l D kI kJ kS ho hr ao aa a_inputs a_remembered a_asks a_hours a_zeros a_ones a_alarms a_faults so sa vs h_vals hv
  · have hre : fX0_keep (nI 1) a_inputs a_remembered a_asks a_hours a_zeros a_ones a_alarms a_faults h_vals = some ((2 : Int32), vup h_vals 1 (a_inputs, a_remembered, a_asks, a_hours, a_zeros, a_ones, a_alarms, a_faults)) := rfl
    rw [hre] at hrun
    obtain rfl := Option.some.inj hrun
    exact c_X0_keep_1_1 l D kI kJ kS ho hr ao aa a_inputs a_remembered a_asks a_hours a_zeros a_ones a_alarms a_faults so sa vs h_vals hv
  · have hre : fX0_keep (nI 0) a_inputs a_remembered a_asks a_hours a_zeros a_ones a_alarms a_faults h_vals = some ((1 : Int32), vup h_vals 0 (a_inputs, a_remembered, a_asks, a_hours, a_zeros, a_ones, a_alarms, a_faults)) := rfl
    rw [hre] at hrun
    obtain rfl := Option.some.inj hrun
    exact c_X0_keep_2_0 l D kI kJ kS ho hr ao aa a_inputs a_remembered a_asks a_hours a_zeros a_ones a_alarms a_faults so sa vs h_vals hv
  · have hre : fX0_keep (nI 1) a_inputs a_remembered a_asks a_hours a_zeros a_ones a_alarms a_faults h_vals = some ((2 : Int32), vup h_vals 1 (a_inputs, a_remembered, a_asks, a_hours, a_zeros, a_ones, a_alarms, a_faults)) := rfl
    rw [hre] at hrun
    obtain rfl := Option.some.inj hrun
    exact c_X0_keep_2_1 l D kI kJ kS ho hr ao aa a_inputs a_remembered a_asks a_hours a_zeros a_ones a_alarms a_faults so sa vs h_vals hv
  · have hre : fX0_keep (nI 2) a_inputs a_remembered a_asks a_hours a_zeros a_ones a_alarms a_faults h_vals = some ((3 : Int32), vup h_vals 2 (a_inputs, a_remembered, a_asks, a_hours, a_zeros, a_ones, a_alarms, a_faults)) := rfl
    rw [hre] at hrun
    obtain rfl := Option.some.inj hrun
    exact c_X0_keep_2_2 l D kI kJ kS ho hr ao aa a_inputs a_remembered a_asks a_hours a_zeros a_ones a_alarms a_faults so sa vs h_vals hv
  · have hre : fX0_keep (nI 0) a_inputs a_remembered a_asks a_hours a_zeros a_ones a_alarms a_faults h_vals = some ((1 : Int32), vup h_vals 0 (a_inputs, a_remembered, a_asks, a_hours, a_zeros, a_ones, a_alarms, a_faults)) := rfl
    rw [hre] at hrun
    obtain rfl := Option.some.inj hrun
    exact c_X0_keep_3_0 l D kI kJ kS ho hr ao aa a_inputs a_remembered a_asks a_hours a_zeros a_ones a_alarms a_faults so sa vs h_vals hv
  · have hre : fX0_keep (nI 1) a_inputs a_remembered a_asks a_hours a_zeros a_ones a_alarms a_faults h_vals = some ((2 : Int32), vup h_vals 1 (a_inputs, a_remembered, a_asks, a_hours, a_zeros, a_ones, a_alarms, a_faults)) := rfl
    rw [hre] at hrun
    obtain rfl := Option.some.inj hrun
    exact c_X0_keep_3_1 l D kI kJ kS ho hr ao aa a_inputs a_remembered a_asks a_hours a_zeros a_ones a_alarms a_faults so sa vs h_vals hv
  · have hre : fX0_keep (nI 2) a_inputs a_remembered a_asks a_hours a_zeros a_ones a_alarms a_faults h_vals = some ((3 : Int32), vup h_vals 2 (a_inputs, a_remembered, a_asks, a_hours, a_zeros, a_ones, a_alarms, a_faults)) := rfl
    rw [hre] at hrun
    obtain rfl := Option.some.inj hrun
    exact c_X0_keep_3_2 l D kI kJ kS ho hr ao aa a_inputs a_remembered a_asks a_hours a_zeros a_ones a_alarms a_faults so sa vs h_vals hv
  · have hre : fX0_keep (nI 3) a_inputs a_remembered a_asks a_hours a_zeros a_ones a_alarms a_faults h_vals = some ((4 : Int32), vup h_vals 3 (a_inputs, a_remembered, a_asks, a_hours, a_zeros, a_ones, a_alarms, a_faults)) := rfl
    rw [hre] at hrun
    obtain rfl := Option.some.inj hrun
    exact c_X0_keep_3_3 l D kI kJ kS ho hr ao aa a_inputs a_remembered a_asks a_hours a_zeros a_ones a_alarms a_faults so sa vs h_vals hv
  · have hre : fX0_keep (nI 0) a_inputs a_remembered a_asks a_hours a_zeros a_ones a_alarms a_faults h_vals = some ((1 : Int32), vup h_vals 0 (a_inputs, a_remembered, a_asks, a_hours, a_zeros, a_ones, a_alarms, a_faults)) := rfl
    rw [hre] at hrun
    obtain rfl := Option.some.inj hrun
    exact c_X0_keep_4_0 l D kI kJ kS ho hr ao aa a_inputs a_remembered a_asks a_hours a_zeros a_ones a_alarms a_faults so sa vs h_vals hv
  · have hre : fX0_keep (nI 1) a_inputs a_remembered a_asks a_hours a_zeros a_ones a_alarms a_faults h_vals = some ((2 : Int32), vup h_vals 1 (a_inputs, a_remembered, a_asks, a_hours, a_zeros, a_ones, a_alarms, a_faults)) := rfl
    rw [hre] at hrun
    obtain rfl := Option.some.inj hrun
    exact c_X0_keep_4_1 l D kI kJ kS ho hr ao aa a_inputs a_remembered a_asks a_hours a_zeros a_ones a_alarms a_faults so sa vs h_vals hv
  · have hre : fX0_keep (nI 2) a_inputs a_remembered a_asks a_hours a_zeros a_ones a_alarms a_faults h_vals = some ((3 : Int32), vup h_vals 2 (a_inputs, a_remembered, a_asks, a_hours, a_zeros, a_ones, a_alarms, a_faults)) := rfl
    rw [hre] at hrun
    obtain rfl := Option.some.inj hrun
    exact c_X0_keep_4_2 l D kI kJ kS ho hr ao aa a_inputs a_remembered a_asks a_hours a_zeros a_ones a_alarms a_faults so sa vs h_vals hv
  · have hre : fX0_keep (nI 3) a_inputs a_remembered a_asks a_hours a_zeros a_ones a_alarms a_faults h_vals = some ((4 : Int32), vup h_vals 3 (a_inputs, a_remembered, a_asks, a_hours, a_zeros, a_ones, a_alarms, a_faults)) := rfl
    rw [hre] at hrun
    obtain rfl := Option.some.inj hrun
    exact c_X0_keep_4_3 l D kI kJ kS ho hr ao aa a_inputs a_remembered a_asks a_hours a_zeros a_ones a_alarms a_faults so sa vs h_vals hv
  · have hre : fX0_keep (nI 4) a_inputs a_remembered a_asks a_hours a_zeros a_ones a_alarms a_faults h_vals = some ((5 : Int32), vup h_vals 4 (a_inputs, a_remembered, a_asks, a_hours, a_zeros, a_ones, a_alarms, a_faults)) := rfl
    rw [hre] at hrun
    obtain rfl := Option.some.inj hrun
    exact c_X0_keep_4_4 l D kI kJ kS ho hr ao aa a_inputs a_remembered a_asks a_hours a_zeros a_ones a_alarms a_faults so sa vs h_vals hv
  · have hre : fX0_keep (nI 0) a_inputs a_remembered a_asks a_hours a_zeros a_ones a_alarms a_faults h_vals = some ((1 : Int32), vup h_vals 0 (a_inputs, a_remembered, a_asks, a_hours, a_zeros, a_ones, a_alarms, a_faults)) := rfl
    rw [hre] at hrun
    obtain rfl := Option.some.inj hrun
    exact c_X0_keep_5_0 l D kI kJ kS ho hr ao aa a_inputs a_remembered a_asks a_hours a_zeros a_ones a_alarms a_faults so sa vs h_vals hv
  · have hre : fX0_keep (nI 1) a_inputs a_remembered a_asks a_hours a_zeros a_ones a_alarms a_faults h_vals = some ((2 : Int32), vup h_vals 1 (a_inputs, a_remembered, a_asks, a_hours, a_zeros, a_ones, a_alarms, a_faults)) := rfl
    rw [hre] at hrun
    obtain rfl := Option.some.inj hrun
    exact c_X0_keep_5_1 l D kI kJ kS ho hr ao aa a_inputs a_remembered a_asks a_hours a_zeros a_ones a_alarms a_faults so sa vs h_vals hv
  · have hre : fX0_keep (nI 2) a_inputs a_remembered a_asks a_hours a_zeros a_ones a_alarms a_faults h_vals = some ((3 : Int32), vup h_vals 2 (a_inputs, a_remembered, a_asks, a_hours, a_zeros, a_ones, a_alarms, a_faults)) := rfl
    rw [hre] at hrun
    obtain rfl := Option.some.inj hrun
    exact c_X0_keep_5_2 l D kI kJ kS ho hr ao aa a_inputs a_remembered a_asks a_hours a_zeros a_ones a_alarms a_faults so sa vs h_vals hv
  · have hre : fX0_keep (nI 3) a_inputs a_remembered a_asks a_hours a_zeros a_ones a_alarms a_faults h_vals = some ((4 : Int32), vup h_vals 3 (a_inputs, a_remembered, a_asks, a_hours, a_zeros, a_ones, a_alarms, a_faults)) := rfl
    rw [hre] at hrun
    obtain rfl := Option.some.inj hrun
    exact c_X0_keep_5_3 l D kI kJ kS ho hr ao aa a_inputs a_remembered a_asks a_hours a_zeros a_ones a_alarms a_faults so sa vs h_vals hv
  · have hre : fX0_keep (nI 4) a_inputs a_remembered a_asks a_hours a_zeros a_ones a_alarms a_faults h_vals = some ((5 : Int32), vup h_vals 4 (a_inputs, a_remembered, a_asks, a_hours, a_zeros, a_ones, a_alarms, a_faults)) := rfl
    rw [hre] at hrun
    obtain rfl := Option.some.inj hrun
    exact c_X0_keep_5_4 l D kI kJ kS ho hr ao aa a_inputs a_remembered a_asks a_hours a_zeros a_ones a_alarms a_faults so sa vs h_vals hv
  · have hre : fX0_keep (nI 5) a_inputs a_remembered a_asks a_hours a_zeros a_ones a_alarms a_faults h_vals = some ((6 : Int32), vup h_vals 5 (a_inputs, a_remembered, a_asks, a_hours, a_zeros, a_ones, a_alarms, a_faults)) := rfl
    rw [hre] at hrun
    obtain rfl := Option.some.inj hrun
    exact c_X0_keep_5_5 l D kI kJ kS ho hr ao aa a_inputs a_remembered a_asks a_hours a_zeros a_ones a_alarms a_faults so sa vs h_vals hv
  · have hre : fX0_keep (nI 0) a_inputs a_remembered a_asks a_hours a_zeros a_ones a_alarms a_faults h_vals = some ((1 : Int32), vup h_vals 0 (a_inputs, a_remembered, a_asks, a_hours, a_zeros, a_ones, a_alarms, a_faults)) := rfl
    rw [hre] at hrun
    obtain rfl := Option.some.inj hrun
    exact c_X0_keep_6_0 l D kI kJ kS ho hr ao aa a_inputs a_remembered a_asks a_hours a_zeros a_ones a_alarms a_faults so sa vs h_vals hv
  · have hre : fX0_keep (nI 1) a_inputs a_remembered a_asks a_hours a_zeros a_ones a_alarms a_faults h_vals = some ((2 : Int32), vup h_vals 1 (a_inputs, a_remembered, a_asks, a_hours, a_zeros, a_ones, a_alarms, a_faults)) := rfl
    rw [hre] at hrun
    obtain rfl := Option.some.inj hrun
    exact c_X0_keep_6_1 l D kI kJ kS ho hr ao aa a_inputs a_remembered a_asks a_hours a_zeros a_ones a_alarms a_faults so sa vs h_vals hv
  · have hre : fX0_keep (nI 2) a_inputs a_remembered a_asks a_hours a_zeros a_ones a_alarms a_faults h_vals = some ((3 : Int32), vup h_vals 2 (a_inputs, a_remembered, a_asks, a_hours, a_zeros, a_ones, a_alarms, a_faults)) := rfl
    rw [hre] at hrun
    obtain rfl := Option.some.inj hrun
    exact c_X0_keep_6_2 l D kI kJ kS ho hr ao aa a_inputs a_remembered a_asks a_hours a_zeros a_ones a_alarms a_faults so sa vs h_vals hv
  · have hre : fX0_keep (nI 3) a_inputs a_remembered a_asks a_hours a_zeros a_ones a_alarms a_faults h_vals = some ((4 : Int32), vup h_vals 3 (a_inputs, a_remembered, a_asks, a_hours, a_zeros, a_ones, a_alarms, a_faults)) := rfl
    rw [hre] at hrun
    obtain rfl := Option.some.inj hrun
    exact c_X0_keep_6_3 l D kI kJ kS ho hr ao aa a_inputs a_remembered a_asks a_hours a_zeros a_ones a_alarms a_faults so sa vs h_vals hv
  · have hre : fX0_keep (nI 4) a_inputs a_remembered a_asks a_hours a_zeros a_ones a_alarms a_faults h_vals = some ((5 : Int32), vup h_vals 4 (a_inputs, a_remembered, a_asks, a_hours, a_zeros, a_ones, a_alarms, a_faults)) := rfl
    rw [hre] at hrun
    obtain rfl := Option.some.inj hrun
    exact c_X0_keep_6_4 l D kI kJ kS ho hr ao aa a_inputs a_remembered a_asks a_hours a_zeros a_ones a_alarms a_faults so sa vs h_vals hv
  · have hre : fX0_keep (nI 5) a_inputs a_remembered a_asks a_hours a_zeros a_ones a_alarms a_faults h_vals = some ((6 : Int32), vup h_vals 5 (a_inputs, a_remembered, a_asks, a_hours, a_zeros, a_ones, a_alarms, a_faults)) := rfl
    rw [hre] at hrun
    obtain rfl := Option.some.inj hrun
    exact c_X0_keep_6_5 l D kI kJ kS ho hr ao aa a_inputs a_remembered a_asks a_hours a_zeros a_ones a_alarms a_faults so sa vs h_vals hv
  · have hre : fX0_keep (nI 6) a_inputs a_remembered a_asks a_hours a_zeros a_ones a_alarms a_faults h_vals = some ((6 : Int32), vup (fun j => h_vals (j + 1)) 5 (a_inputs, a_remembered, a_asks, a_hours, a_zeros, a_ones, a_alarms, a_faults)) := rfl
    rw [hre] at hrun
    obtain rfl := Option.some.inj hrun
    exact c_X0_keep_6_6 l D kI kJ kS ho hr ao aa a_inputs a_remembered a_asks a_hours a_zeros a_ones a_alarms a_faults so sa vs h_vals hv
set_option maxHeartbeats 4000000 in
set_option maxRecDepth 100000 in
theorem c_X0_bringBack (l : Launch) (D : va_G) (kI kJ kS : ClassId) (ho : Nat) (hr : Nat) (ao : Nat) (aa : Nat → Nat) (h_size : Int32) (a_inputs : Int32) (a_remembered : Int32) (a_asks : Int32) (a_hours : Int32) (a_zeros : Nat → Int64) (a_ones : Nat → Int64) (a_alarms : Nat → Int32) (a_faults : Nat → Int32) (h_vals : Nat → SV) {tl : va_W} (htl : TL kI kJ kS hr h_size h_vals tl) {r : Int32 × Int32 × Int32 × Int32 × Int32 × Int32 × (Nat → Int64) × (Nat → Int64) × (Nat → Int32) × (Nat → Int32)} (hrun : fX0_bringBack h_size a_inputs a_remembered a_asks a_hours a_zeros a_ones a_alarms a_faults h_vals = some r) : gI l D (tyL kI kJ kS) yX0_bringBack wsX0_bringBack (rmk 1 0 0 22) [.ref ho, .ref ao] ((wX0 ho hr h_size ++ wX3 kI kJ ao aa a_inputs a_remembered a_asks a_hours a_zeros a_ones a_alarms a_faults) ++ tl) (wX0 ho hr r.2.1 ++ wX3 kI kJ ao aa r.2.2.1 r.2.2.2.1 r.2.2.2.2.1 r.2.2.2.2.2.1 r.2.2.2.2.2.2.1 r.2.2.2.2.2.2.2.1 r.2.2.2.2.2.2.2.2.1 r.2.2.2.2.2.2.2.2.2) (fun tl' => tl' = tl) r.1 := by
  obtain ⟨n, k, so, sa, vs, hn, hk, rfl, hv, rfl⟩ := htl
  rcases (show (n = 0 ∧ k = 0) ∨ (n = 1 ∧ k = 0) ∨ (n = 1 ∧ k = 1) ∨ (n = 2 ∧ k = 0) ∨ (n = 2 ∧ k = 1) ∨ (n = 2 ∧ k = 2) ∨ (n = 3 ∧ k = 0) ∨ (n = 3 ∧ k = 1) ∨ (n = 3 ∧ k = 2) ∨ (n = 3 ∧ k = 3) ∨ (n = 4 ∧ k = 0) ∨ (n = 4 ∧ k = 1) ∨ (n = 4 ∧ k = 2) ∨ (n = 4 ∧ k = 3) ∨ (n = 4 ∧ k = 4) ∨ (n = 5 ∧ k = 0) ∨ (n = 5 ∧ k = 1) ∨ (n = 5 ∧ k = 2) ∨ (n = 5 ∧ k = 3) ∨ (n = 5 ∧ k = 4) ∨ (n = 5 ∧ k = 5) ∨ (n = 6 ∧ k = 0) ∨ (n = 6 ∧ k = 1) ∨ (n = 6 ∧ k = 2) ∨ (n = 6 ∧ k = 3) ∨ (n = 6 ∧ k = 4) ∨ (n = 6 ∧ k = 5) ∨ (n = 6 ∧ k = 6) by omega) with ⟨rfl, rfl⟩ | ⟨rfl, rfl⟩ | ⟨rfl, rfl⟩ | ⟨rfl, rfl⟩ | ⟨rfl, rfl⟩ | ⟨rfl, rfl⟩ | ⟨rfl, rfl⟩ | ⟨rfl, rfl⟩ | ⟨rfl, rfl⟩ | ⟨rfl, rfl⟩ | ⟨rfl, rfl⟩ | ⟨rfl, rfl⟩ | ⟨rfl, rfl⟩ | ⟨rfl, rfl⟩ | ⟨rfl, rfl⟩ | ⟨rfl, rfl⟩ | ⟨rfl, rfl⟩ | ⟨rfl, rfl⟩ | ⟨rfl, rfl⟩ | ⟨rfl, rfl⟩ | ⟨rfl, rfl⟩ | ⟨rfl, rfl⟩ | ⟨rfl, rfl⟩ | ⟨rfl, rfl⟩ | ⟨rfl, rfl⟩ | ⟨rfl, rfl⟩ | ⟨rfl, rfl⟩ | ⟨rfl, rfl⟩
  · have hre : fX0_bringBack (nI 0) a_inputs a_remembered a_asks a_hours a_zeros a_ones a_alarms a_faults h_vals = some ((0 : Int32), (0 : Int32), a_inputs, a_remembered, a_asks, a_hours, a_zeros, a_ones, a_alarms, a_faults) := rfl
    rw [hre] at hrun
    obtain rfl := Option.some.inj hrun
    exact c_X0_bb_0_0 l D kI kJ kS ho hr ao aa a_inputs a_remembered a_asks a_hours a_zeros a_ones a_alarms a_faults so sa vs
  · have hre : fX0_bringBack (nI 0) a_inputs a_remembered a_asks a_hours a_zeros a_ones a_alarms a_faults h_vals = some ((0 : Int32), (0 : Int32), a_inputs, a_remembered, a_asks, a_hours, a_zeros, a_ones, a_alarms, a_faults) := rfl
    rw [hre] at hrun
    obtain rfl := Option.some.inj hrun
    exact c_X0_bb_1_0 l D kI kJ kS ho hr ao aa a_inputs a_remembered a_asks a_hours a_zeros a_ones a_alarms a_faults so sa vs
  · have hre : fX0_bringBack (nI 1) a_inputs a_remembered a_asks a_hours a_zeros a_ones a_alarms a_faults h_vals = (fX3_copyFrom a_zeros a_ones a_alarms a_faults (h_vals 0).1 (h_vals 0).2.1 (h_vals 0).2.2.1 (h_vals 0).2.2.2.1 (h_vals 0).2.2.2.2.1 (h_vals 0).2.2.2.2.2.1 (h_vals 0).2.2.2.2.2.2.1 (h_vals 0).2.2.2.2.2.2.2).bind (fun q => some ((1 : Int32), (0 : Int32), q.1, q.2.1, q.2.2.1, q.2.2.2.1, q.2.2.2.2.1, q.2.2.2.2.2.1, q.2.2.2.2.2.2.1, q.2.2.2.2.2.2.2)) := rfl
    rw [hre] at hrun
    obtain ⟨q, hq, hrun⟩ := bd_some hrun
    obtain rfl := Option.some.inj hrun
    exact c_X0_bb_1_1 l D kI kJ kS ho hr ao aa a_inputs a_remembered a_asks a_hours a_zeros a_ones a_alarms a_faults so sa vs ((cf_congr _ _ _ _ (hv 0 (by decide))).trans hq)
  · have hre : fX0_bringBack (nI 0) a_inputs a_remembered a_asks a_hours a_zeros a_ones a_alarms a_faults h_vals = some ((0 : Int32), (0 : Int32), a_inputs, a_remembered, a_asks, a_hours, a_zeros, a_ones, a_alarms, a_faults) := rfl
    rw [hre] at hrun
    obtain rfl := Option.some.inj hrun
    exact c_X0_bb_2_0 l D kI kJ kS ho hr ao aa a_inputs a_remembered a_asks a_hours a_zeros a_ones a_alarms a_faults so sa vs
  · have hre : fX0_bringBack (nI 1) a_inputs a_remembered a_asks a_hours a_zeros a_ones a_alarms a_faults h_vals = (fX3_copyFrom a_zeros a_ones a_alarms a_faults (h_vals 0).1 (h_vals 0).2.1 (h_vals 0).2.2.1 (h_vals 0).2.2.2.1 (h_vals 0).2.2.2.2.1 (h_vals 0).2.2.2.2.2.1 (h_vals 0).2.2.2.2.2.2.1 (h_vals 0).2.2.2.2.2.2.2).bind (fun q => some ((1 : Int32), (0 : Int32), q.1, q.2.1, q.2.2.1, q.2.2.2.1, q.2.2.2.2.1, q.2.2.2.2.2.1, q.2.2.2.2.2.2.1, q.2.2.2.2.2.2.2)) := rfl
    rw [hre] at hrun
    obtain ⟨q, hq, hrun⟩ := bd_some hrun
    obtain rfl := Option.some.inj hrun
    exact c_X0_bb_2_1 l D kI kJ kS ho hr ao aa a_inputs a_remembered a_asks a_hours a_zeros a_ones a_alarms a_faults so sa vs ((cf_congr _ _ _ _ (hv 0 (by decide))).trans hq)
  · have hre : fX0_bringBack (nI 2) a_inputs a_remembered a_asks a_hours a_zeros a_ones a_alarms a_faults h_vals = (fX3_copyFrom a_zeros a_ones a_alarms a_faults (h_vals 1).1 (h_vals 1).2.1 (h_vals 1).2.2.1 (h_vals 1).2.2.2.1 (h_vals 1).2.2.2.2.1 (h_vals 1).2.2.2.2.2.1 (h_vals 1).2.2.2.2.2.2.1 (h_vals 1).2.2.2.2.2.2.2).bind (fun q => some ((1 : Int32), (1 : Int32), q.1, q.2.1, q.2.2.1, q.2.2.2.1, q.2.2.2.2.1, q.2.2.2.2.2.1, q.2.2.2.2.2.2.1, q.2.2.2.2.2.2.2)) := rfl
    rw [hre] at hrun
    obtain ⟨q, hq, hrun⟩ := bd_some hrun
    obtain rfl := Option.some.inj hrun
    exact c_X0_bb_2_2 l D kI kJ kS ho hr ao aa a_inputs a_remembered a_asks a_hours a_zeros a_ones a_alarms a_faults so sa vs ((cf_congr _ _ _ _ (hv 1 (by decide))).trans hq)
  · have hre : fX0_bringBack (nI 0) a_inputs a_remembered a_asks a_hours a_zeros a_ones a_alarms a_faults h_vals = some ((0 : Int32), (0 : Int32), a_inputs, a_remembered, a_asks, a_hours, a_zeros, a_ones, a_alarms, a_faults) := rfl
    rw [hre] at hrun
    obtain rfl := Option.some.inj hrun
    exact c_X0_bb_3_0 l D kI kJ kS ho hr ao aa a_inputs a_remembered a_asks a_hours a_zeros a_ones a_alarms a_faults so sa vs
  · have hre : fX0_bringBack (nI 1) a_inputs a_remembered a_asks a_hours a_zeros a_ones a_alarms a_faults h_vals = (fX3_copyFrom a_zeros a_ones a_alarms a_faults (h_vals 0).1 (h_vals 0).2.1 (h_vals 0).2.2.1 (h_vals 0).2.2.2.1 (h_vals 0).2.2.2.2.1 (h_vals 0).2.2.2.2.2.1 (h_vals 0).2.2.2.2.2.2.1 (h_vals 0).2.2.2.2.2.2.2).bind (fun q => some ((1 : Int32), (0 : Int32), q.1, q.2.1, q.2.2.1, q.2.2.2.1, q.2.2.2.2.1, q.2.2.2.2.2.1, q.2.2.2.2.2.2.1, q.2.2.2.2.2.2.2)) := rfl
    rw [hre] at hrun
    obtain ⟨q, hq, hrun⟩ := bd_some hrun
    obtain rfl := Option.some.inj hrun
    exact c_X0_bb_3_1 l D kI kJ kS ho hr ao aa a_inputs a_remembered a_asks a_hours a_zeros a_ones a_alarms a_faults so sa vs ((cf_congr _ _ _ _ (hv 0 (by decide))).trans hq)
  · have hre : fX0_bringBack (nI 2) a_inputs a_remembered a_asks a_hours a_zeros a_ones a_alarms a_faults h_vals = (fX3_copyFrom a_zeros a_ones a_alarms a_faults (h_vals 1).1 (h_vals 1).2.1 (h_vals 1).2.2.1 (h_vals 1).2.2.2.1 (h_vals 1).2.2.2.2.1 (h_vals 1).2.2.2.2.2.1 (h_vals 1).2.2.2.2.2.2.1 (h_vals 1).2.2.2.2.2.2.2).bind (fun q => some ((1 : Int32), (1 : Int32), q.1, q.2.1, q.2.2.1, q.2.2.2.1, q.2.2.2.2.1, q.2.2.2.2.2.1, q.2.2.2.2.2.2.1, q.2.2.2.2.2.2.2)) := rfl
    rw [hre] at hrun
    obtain ⟨q, hq, hrun⟩ := bd_some hrun
    obtain rfl := Option.some.inj hrun
    exact c_X0_bb_3_2 l D kI kJ kS ho hr ao aa a_inputs a_remembered a_asks a_hours a_zeros a_ones a_alarms a_faults so sa vs ((cf_congr _ _ _ _ (hv 1 (by decide))).trans hq)
  · have hre : fX0_bringBack (nI 3) a_inputs a_remembered a_asks a_hours a_zeros a_ones a_alarms a_faults h_vals = (fX3_copyFrom a_zeros a_ones a_alarms a_faults (h_vals 2).1 (h_vals 2).2.1 (h_vals 2).2.2.1 (h_vals 2).2.2.2.1 (h_vals 2).2.2.2.2.1 (h_vals 2).2.2.2.2.2.1 (h_vals 2).2.2.2.2.2.2.1 (h_vals 2).2.2.2.2.2.2.2).bind (fun q => some ((1 : Int32), (2 : Int32), q.1, q.2.1, q.2.2.1, q.2.2.2.1, q.2.2.2.2.1, q.2.2.2.2.2.1, q.2.2.2.2.2.2.1, q.2.2.2.2.2.2.2)) := rfl
    rw [hre] at hrun
    obtain ⟨q, hq, hrun⟩ := bd_some hrun
    obtain rfl := Option.some.inj hrun
    exact c_X0_bb_3_3 l D kI kJ kS ho hr ao aa a_inputs a_remembered a_asks a_hours a_zeros a_ones a_alarms a_faults so sa vs ((cf_congr _ _ _ _ (hv 2 (by decide))).trans hq)
  · have hre : fX0_bringBack (nI 0) a_inputs a_remembered a_asks a_hours a_zeros a_ones a_alarms a_faults h_vals = some ((0 : Int32), (0 : Int32), a_inputs, a_remembered, a_asks, a_hours, a_zeros, a_ones, a_alarms, a_faults) := rfl
    rw [hre] at hrun
    obtain rfl := Option.some.inj hrun
    exact c_X0_bb_4_0 l D kI kJ kS ho hr ao aa a_inputs a_remembered a_asks a_hours a_zeros a_ones a_alarms a_faults so sa vs
  · have hre : fX0_bringBack (nI 1) a_inputs a_remembered a_asks a_hours a_zeros a_ones a_alarms a_faults h_vals = (fX3_copyFrom a_zeros a_ones a_alarms a_faults (h_vals 0).1 (h_vals 0).2.1 (h_vals 0).2.2.1 (h_vals 0).2.2.2.1 (h_vals 0).2.2.2.2.1 (h_vals 0).2.2.2.2.2.1 (h_vals 0).2.2.2.2.2.2.1 (h_vals 0).2.2.2.2.2.2.2).bind (fun q => some ((1 : Int32), (0 : Int32), q.1, q.2.1, q.2.2.1, q.2.2.2.1, q.2.2.2.2.1, q.2.2.2.2.2.1, q.2.2.2.2.2.2.1, q.2.2.2.2.2.2.2)) := rfl
    rw [hre] at hrun
    obtain ⟨q, hq, hrun⟩ := bd_some hrun
    obtain rfl := Option.some.inj hrun
    exact c_X0_bb_4_1 l D kI kJ kS ho hr ao aa a_inputs a_remembered a_asks a_hours a_zeros a_ones a_alarms a_faults so sa vs ((cf_congr _ _ _ _ (hv 0 (by decide))).trans hq)
  · have hre : fX0_bringBack (nI 2) a_inputs a_remembered a_asks a_hours a_zeros a_ones a_alarms a_faults h_vals = (fX3_copyFrom a_zeros a_ones a_alarms a_faults (h_vals 1).1 (h_vals 1).2.1 (h_vals 1).2.2.1 (h_vals 1).2.2.2.1 (h_vals 1).2.2.2.2.1 (h_vals 1).2.2.2.2.2.1 (h_vals 1).2.2.2.2.2.2.1 (h_vals 1).2.2.2.2.2.2.2).bind (fun q => some ((1 : Int32), (1 : Int32), q.1, q.2.1, q.2.2.1, q.2.2.2.1, q.2.2.2.2.1, q.2.2.2.2.2.1, q.2.2.2.2.2.2.1, q.2.2.2.2.2.2.2)) := rfl
    rw [hre] at hrun
    obtain ⟨q, hq, hrun⟩ := bd_some hrun
    obtain rfl := Option.some.inj hrun
    exact c_X0_bb_4_2 l D kI kJ kS ho hr ao aa a_inputs a_remembered a_asks a_hours a_zeros a_ones a_alarms a_faults so sa vs ((cf_congr _ _ _ _ (hv 1 (by decide))).trans hq)
  · have hre : fX0_bringBack (nI 3) a_inputs a_remembered a_asks a_hours a_zeros a_ones a_alarms a_faults h_vals = (fX3_copyFrom a_zeros a_ones a_alarms a_faults (h_vals 2).1 (h_vals 2).2.1 (h_vals 2).2.2.1 (h_vals 2).2.2.2.1 (h_vals 2).2.2.2.2.1 (h_vals 2).2.2.2.2.2.1 (h_vals 2).2.2.2.2.2.2.1 (h_vals 2).2.2.2.2.2.2.2).bind (fun q => some ((1 : Int32), (2 : Int32), q.1, q.2.1, q.2.2.1, q.2.2.2.1, q.2.2.2.2.1, q.2.2.2.2.2.1, q.2.2.2.2.2.2.1, q.2.2.2.2.2.2.2)) := rfl
    rw [hre] at hrun
    obtain ⟨q, hq, hrun⟩ := bd_some hrun
    obtain rfl := Option.some.inj hrun
    exact c_X0_bb_4_3 l D kI kJ kS ho hr ao aa a_inputs a_remembered a_asks a_hours a_zeros a_ones a_alarms a_faults so sa vs ((cf_congr _ _ _ _ (hv 2 (by decide))).trans hq)
  · have hre : fX0_bringBack (nI 4) a_inputs a_remembered a_asks a_hours a_zeros a_ones a_alarms a_faults h_vals = (fX3_copyFrom a_zeros a_ones a_alarms a_faults (h_vals 3).1 (h_vals 3).2.1 (h_vals 3).2.2.1 (h_vals 3).2.2.2.1 (h_vals 3).2.2.2.2.1 (h_vals 3).2.2.2.2.2.1 (h_vals 3).2.2.2.2.2.2.1 (h_vals 3).2.2.2.2.2.2.2).bind (fun q => some ((1 : Int32), (3 : Int32), q.1, q.2.1, q.2.2.1, q.2.2.2.1, q.2.2.2.2.1, q.2.2.2.2.2.1, q.2.2.2.2.2.2.1, q.2.2.2.2.2.2.2)) := rfl
    rw [hre] at hrun
    obtain ⟨q, hq, hrun⟩ := bd_some hrun
    obtain rfl := Option.some.inj hrun
    exact c_X0_bb_4_4 l D kI kJ kS ho hr ao aa a_inputs a_remembered a_asks a_hours a_zeros a_ones a_alarms a_faults so sa vs ((cf_congr _ _ _ _ (hv 3 (by decide))).trans hq)
  · have hre : fX0_bringBack (nI 0) a_inputs a_remembered a_asks a_hours a_zeros a_ones a_alarms a_faults h_vals = some ((0 : Int32), (0 : Int32), a_inputs, a_remembered, a_asks, a_hours, a_zeros, a_ones, a_alarms, a_faults) := rfl
    rw [hre] at hrun
    obtain rfl := Option.some.inj hrun
    exact c_X0_bb_5_0 l D kI kJ kS ho hr ao aa a_inputs a_remembered a_asks a_hours a_zeros a_ones a_alarms a_faults so sa vs
  · have hre : fX0_bringBack (nI 1) a_inputs a_remembered a_asks a_hours a_zeros a_ones a_alarms a_faults h_vals = (fX3_copyFrom a_zeros a_ones a_alarms a_faults (h_vals 0).1 (h_vals 0).2.1 (h_vals 0).2.2.1 (h_vals 0).2.2.2.1 (h_vals 0).2.2.2.2.1 (h_vals 0).2.2.2.2.2.1 (h_vals 0).2.2.2.2.2.2.1 (h_vals 0).2.2.2.2.2.2.2).bind (fun q => some ((1 : Int32), (0 : Int32), q.1, q.2.1, q.2.2.1, q.2.2.2.1, q.2.2.2.2.1, q.2.2.2.2.2.1, q.2.2.2.2.2.2.1, q.2.2.2.2.2.2.2)) := rfl
    rw [hre] at hrun
    obtain ⟨q, hq, hrun⟩ := bd_some hrun
    obtain rfl := Option.some.inj hrun
    exact c_X0_bb_5_1 l D kI kJ kS ho hr ao aa a_inputs a_remembered a_asks a_hours a_zeros a_ones a_alarms a_faults so sa vs ((cf_congr _ _ _ _ (hv 0 (by decide))).trans hq)
  · have hre : fX0_bringBack (nI 2) a_inputs a_remembered a_asks a_hours a_zeros a_ones a_alarms a_faults h_vals = (fX3_copyFrom a_zeros a_ones a_alarms a_faults (h_vals 1).1 (h_vals 1).2.1 (h_vals 1).2.2.1 (h_vals 1).2.2.2.1 (h_vals 1).2.2.2.2.1 (h_vals 1).2.2.2.2.2.1 (h_vals 1).2.2.2.2.2.2.1 (h_vals 1).2.2.2.2.2.2.2).bind (fun q => some ((1 : Int32), (1 : Int32), q.1, q.2.1, q.2.2.1, q.2.2.2.1, q.2.2.2.2.1, q.2.2.2.2.2.1, q.2.2.2.2.2.2.1, q.2.2.2.2.2.2.2)) := rfl
    rw [hre] at hrun
    obtain ⟨q, hq, hrun⟩ := bd_some hrun
    obtain rfl := Option.some.inj hrun
    exact c_X0_bb_5_2 l D kI kJ kS ho hr ao aa a_inputs a_remembered a_asks a_hours a_zeros a_ones a_alarms a_faults so sa vs ((cf_congr _ _ _ _ (hv 1 (by decide))).trans hq)
  · have hre : fX0_bringBack (nI 3) a_inputs a_remembered a_asks a_hours a_zeros a_ones a_alarms a_faults h_vals = (fX3_copyFrom a_zeros a_ones a_alarms a_faults (h_vals 2).1 (h_vals 2).2.1 (h_vals 2).2.2.1 (h_vals 2).2.2.2.1 (h_vals 2).2.2.2.2.1 (h_vals 2).2.2.2.2.2.1 (h_vals 2).2.2.2.2.2.2.1 (h_vals 2).2.2.2.2.2.2.2).bind (fun q => some ((1 : Int32), (2 : Int32), q.1, q.2.1, q.2.2.1, q.2.2.2.1, q.2.2.2.2.1, q.2.2.2.2.2.1, q.2.2.2.2.2.2.1, q.2.2.2.2.2.2.2)) := rfl
    rw [hre] at hrun
    obtain ⟨q, hq, hrun⟩ := bd_some hrun
    obtain rfl := Option.some.inj hrun
    exact c_X0_bb_5_3 l D kI kJ kS ho hr ao aa a_inputs a_remembered a_asks a_hours a_zeros a_ones a_alarms a_faults so sa vs ((cf_congr _ _ _ _ (hv 2 (by decide))).trans hq)
  · have hre : fX0_bringBack (nI 4) a_inputs a_remembered a_asks a_hours a_zeros a_ones a_alarms a_faults h_vals = (fX3_copyFrom a_zeros a_ones a_alarms a_faults (h_vals 3).1 (h_vals 3).2.1 (h_vals 3).2.2.1 (h_vals 3).2.2.2.1 (h_vals 3).2.2.2.2.1 (h_vals 3).2.2.2.2.2.1 (h_vals 3).2.2.2.2.2.2.1 (h_vals 3).2.2.2.2.2.2.2).bind (fun q => some ((1 : Int32), (3 : Int32), q.1, q.2.1, q.2.2.1, q.2.2.2.1, q.2.2.2.2.1, q.2.2.2.2.2.1, q.2.2.2.2.2.2.1, q.2.2.2.2.2.2.2)) := rfl
    rw [hre] at hrun
    obtain ⟨q, hq, hrun⟩ := bd_some hrun
    obtain rfl := Option.some.inj hrun
    exact c_X0_bb_5_4 l D kI kJ kS ho hr ao aa a_inputs a_remembered a_asks a_hours a_zeros a_ones a_alarms a_faults so sa vs ((cf_congr _ _ _ _ (hv 3 (by decide))).trans hq)
  · have hre : fX0_bringBack (nI 5) a_inputs a_remembered a_asks a_hours a_zeros a_ones a_alarms a_faults h_vals = (fX3_copyFrom a_zeros a_ones a_alarms a_faults (h_vals 4).1 (h_vals 4).2.1 (h_vals 4).2.2.1 (h_vals 4).2.2.2.1 (h_vals 4).2.2.2.2.1 (h_vals 4).2.2.2.2.2.1 (h_vals 4).2.2.2.2.2.2.1 (h_vals 4).2.2.2.2.2.2.2).bind (fun q => some ((1 : Int32), (4 : Int32), q.1, q.2.1, q.2.2.1, q.2.2.2.1, q.2.2.2.2.1, q.2.2.2.2.2.1, q.2.2.2.2.2.2.1, q.2.2.2.2.2.2.2)) := rfl
    rw [hre] at hrun
    obtain ⟨q, hq, hrun⟩ := bd_some hrun
    obtain rfl := Option.some.inj hrun
    exact c_X0_bb_5_5 l D kI kJ kS ho hr ao aa a_inputs a_remembered a_asks a_hours a_zeros a_ones a_alarms a_faults so sa vs ((cf_congr _ _ _ _ (hv 4 (by decide))).trans hq)
  · have hre : fX0_bringBack (nI 0) a_inputs a_remembered a_asks a_hours a_zeros a_ones a_alarms a_faults h_vals = some ((0 : Int32), (0 : Int32), a_inputs, a_remembered, a_asks, a_hours, a_zeros, a_ones, a_alarms, a_faults) := rfl
    rw [hre] at hrun
    obtain rfl := Option.some.inj hrun
    exact c_X0_bb_6_0 l D kI kJ kS ho hr ao aa a_inputs a_remembered a_asks a_hours a_zeros a_ones a_alarms a_faults so sa vs
  · have hre : fX0_bringBack (nI 1) a_inputs a_remembered a_asks a_hours a_zeros a_ones a_alarms a_faults h_vals = (fX3_copyFrom a_zeros a_ones a_alarms a_faults (h_vals 0).1 (h_vals 0).2.1 (h_vals 0).2.2.1 (h_vals 0).2.2.2.1 (h_vals 0).2.2.2.2.1 (h_vals 0).2.2.2.2.2.1 (h_vals 0).2.2.2.2.2.2.1 (h_vals 0).2.2.2.2.2.2.2).bind (fun q => some ((1 : Int32), (0 : Int32), q.1, q.2.1, q.2.2.1, q.2.2.2.1, q.2.2.2.2.1, q.2.2.2.2.2.1, q.2.2.2.2.2.2.1, q.2.2.2.2.2.2.2)) := rfl
    rw [hre] at hrun
    obtain ⟨q, hq, hrun⟩ := bd_some hrun
    obtain rfl := Option.some.inj hrun
    exact c_X0_bb_6_1 l D kI kJ kS ho hr ao aa a_inputs a_remembered a_asks a_hours a_zeros a_ones a_alarms a_faults so sa vs ((cf_congr _ _ _ _ (hv 0 (by decide))).trans hq)
  · have hre : fX0_bringBack (nI 2) a_inputs a_remembered a_asks a_hours a_zeros a_ones a_alarms a_faults h_vals = (fX3_copyFrom a_zeros a_ones a_alarms a_faults (h_vals 1).1 (h_vals 1).2.1 (h_vals 1).2.2.1 (h_vals 1).2.2.2.1 (h_vals 1).2.2.2.2.1 (h_vals 1).2.2.2.2.2.1 (h_vals 1).2.2.2.2.2.2.1 (h_vals 1).2.2.2.2.2.2.2).bind (fun q => some ((1 : Int32), (1 : Int32), q.1, q.2.1, q.2.2.1, q.2.2.2.1, q.2.2.2.2.1, q.2.2.2.2.2.1, q.2.2.2.2.2.2.1, q.2.2.2.2.2.2.2)) := rfl
    rw [hre] at hrun
    obtain ⟨q, hq, hrun⟩ := bd_some hrun
    obtain rfl := Option.some.inj hrun
    exact c_X0_bb_6_2 l D kI kJ kS ho hr ao aa a_inputs a_remembered a_asks a_hours a_zeros a_ones a_alarms a_faults so sa vs ((cf_congr _ _ _ _ (hv 1 (by decide))).trans hq)
  · have hre : fX0_bringBack (nI 3) a_inputs a_remembered a_asks a_hours a_zeros a_ones a_alarms a_faults h_vals = (fX3_copyFrom a_zeros a_ones a_alarms a_faults (h_vals 2).1 (h_vals 2).2.1 (h_vals 2).2.2.1 (h_vals 2).2.2.2.1 (h_vals 2).2.2.2.2.1 (h_vals 2).2.2.2.2.2.1 (h_vals 2).2.2.2.2.2.2.1 (h_vals 2).2.2.2.2.2.2.2).bind (fun q => some ((1 : Int32), (2 : Int32), q.1, q.2.1, q.2.2.1, q.2.2.2.1, q.2.2.2.2.1, q.2.2.2.2.2.1, q.2.2.2.2.2.2.1, q.2.2.2.2.2.2.2)) := rfl
    rw [hre] at hrun
    obtain ⟨q, hq, hrun⟩ := bd_some hrun
    obtain rfl := Option.some.inj hrun
    exact c_X0_bb_6_3 l D kI kJ kS ho hr ao aa a_inputs a_remembered a_asks a_hours a_zeros a_ones a_alarms a_faults so sa vs ((cf_congr _ _ _ _ (hv 2 (by decide))).trans hq)
  · have hre : fX0_bringBack (nI 4) a_inputs a_remembered a_asks a_hours a_zeros a_ones a_alarms a_faults h_vals = (fX3_copyFrom a_zeros a_ones a_alarms a_faults (h_vals 3).1 (h_vals 3).2.1 (h_vals 3).2.2.1 (h_vals 3).2.2.2.1 (h_vals 3).2.2.2.2.1 (h_vals 3).2.2.2.2.2.1 (h_vals 3).2.2.2.2.2.2.1 (h_vals 3).2.2.2.2.2.2.2).bind (fun q => some ((1 : Int32), (3 : Int32), q.1, q.2.1, q.2.2.1, q.2.2.2.1, q.2.2.2.2.1, q.2.2.2.2.2.1, q.2.2.2.2.2.2.1, q.2.2.2.2.2.2.2)) := rfl
    rw [hre] at hrun
    obtain ⟨q, hq, hrun⟩ := bd_some hrun
    obtain rfl := Option.some.inj hrun
    exact c_X0_bb_6_4 l D kI kJ kS ho hr ao aa a_inputs a_remembered a_asks a_hours a_zeros a_ones a_alarms a_faults so sa vs ((cf_congr _ _ _ _ (hv 3 (by decide))).trans hq)
  · have hre : fX0_bringBack (nI 5) a_inputs a_remembered a_asks a_hours a_zeros a_ones a_alarms a_faults h_vals = (fX3_copyFrom a_zeros a_ones a_alarms a_faults (h_vals 4).1 (h_vals 4).2.1 (h_vals 4).2.2.1 (h_vals 4).2.2.2.1 (h_vals 4).2.2.2.2.1 (h_vals 4).2.2.2.2.2.1 (h_vals 4).2.2.2.2.2.2.1 (h_vals 4).2.2.2.2.2.2.2).bind (fun q => some ((1 : Int32), (4 : Int32), q.1, q.2.1, q.2.2.1, q.2.2.2.1, q.2.2.2.2.1, q.2.2.2.2.2.1, q.2.2.2.2.2.2.1, q.2.2.2.2.2.2.2)) := rfl
    rw [hre] at hrun
    obtain ⟨q, hq, hrun⟩ := bd_some hrun
    obtain rfl := Option.some.inj hrun
    exact c_X0_bb_6_5 l D kI kJ kS ho hr ao aa a_inputs a_remembered a_asks a_hours a_zeros a_ones a_alarms a_faults so sa vs ((cf_congr _ _ _ _ (hv 4 (by decide))).trans hq)
  · have hre : fX0_bringBack (nI 6) a_inputs a_remembered a_asks a_hours a_zeros a_ones a_alarms a_faults h_vals = (fX3_copyFrom a_zeros a_ones a_alarms a_faults (h_vals 5).1 (h_vals 5).2.1 (h_vals 5).2.2.1 (h_vals 5).2.2.2.1 (h_vals 5).2.2.2.2.1 (h_vals 5).2.2.2.2.2.1 (h_vals 5).2.2.2.2.2.2.1 (h_vals 5).2.2.2.2.2.2.2).bind (fun q => some ((1 : Int32), (5 : Int32), q.1, q.2.1, q.2.2.1, q.2.2.2.1, q.2.2.2.2.1, q.2.2.2.2.2.1, q.2.2.2.2.2.2.1, q.2.2.2.2.2.2.2)) := rfl
    rw [hre] at hrun
    obtain ⟨q, hq, hrun⟩ := bd_some hrun
    obtain rfl := Option.some.inj hrun
    exact c_X0_bb_6_6 l D kI kJ kS ho hr ao aa a_inputs a_remembered a_asks a_hours a_zeros a_ones a_alarms a_faults so sa vs ((cf_congr _ _ _ _ (hv 5 (by decide))).trans hq)
set_option maxHeartbeats 4000000 in
set_option maxRecDepth 100000 in
theorem c_X0_truthsChanged (l : Launch) (D : va_G) (kI kJ kS : ClassId) (ho : Nat) (hr : Nat) (ao : Nat) (aa : Nat → Nat) (h_size : Int32) (a_inputs : Int32) (a_remembered : Int32) (a_asks : Int32) (a_hours : Int32) (a_zeros : Nat → Int64) (a_ones : Nat → Int64) (a_alarms : Nat → Int32) (a_faults : Nat → Int32) (h_vals : Nat → SV) {tl : va_W} (htl : TL kI kJ kS hr h_size h_vals tl) {r : Int32} (hrun : fX0_truthsChanged h_size a_zeros a_ones h_vals = some r) : gI l D (tyL kI kJ kS) yX0_truthsChanged wsX0_truthsChanged (rmk 2 0 0 44) [.ref ho, .ref ao] ((wX0 ho hr h_size ++ wX3 kI kJ ao aa a_inputs a_remembered a_asks a_hours a_zeros a_ones a_alarms a_faults) ++ tl) (wX0 ho hr h_size ++ wX3 kI kJ ao aa a_inputs a_remembered a_asks a_hours a_zeros a_ones a_alarms a_faults) (fun tl' => tl' = tl) r := by
  obtain ⟨n, k, so, sa, vs, hn, hk, rfl, hv, rfl⟩ := htl
  rcases (show (n = 0 ∧ k = 0) ∨ (n = 1 ∧ k = 0) ∨ (n = 1 ∧ k = 1) ∨ (n = 2 ∧ k = 0) ∨ (n = 2 ∧ k = 1) ∨ (n = 2 ∧ k = 2) ∨ (n = 3 ∧ k = 0) ∨ (n = 3 ∧ k = 1) ∨ (n = 3 ∧ k = 2) ∨ (n = 3 ∧ k = 3) ∨ (n = 4 ∧ k = 0) ∨ (n = 4 ∧ k = 1) ∨ (n = 4 ∧ k = 2) ∨ (n = 4 ∧ k = 3) ∨ (n = 4 ∧ k = 4) ∨ (n = 5 ∧ k = 0) ∨ (n = 5 ∧ k = 1) ∨ (n = 5 ∧ k = 2) ∨ (n = 5 ∧ k = 3) ∨ (n = 5 ∧ k = 4) ∨ (n = 5 ∧ k = 5) ∨ (n = 6 ∧ k = 0) ∨ (n = 6 ∧ k = 1) ∨ (n = 6 ∧ k = 2) ∨ (n = 6 ∧ k = 3) ∨ (n = 6 ∧ k = 4) ∨ (n = 6 ∧ k = 5) ∨ (n = 6 ∧ k = 6) by omega) with ⟨rfl, rfl⟩ | ⟨rfl, rfl⟩ | ⟨rfl, rfl⟩ | ⟨rfl, rfl⟩ | ⟨rfl, rfl⟩ | ⟨rfl, rfl⟩ | ⟨rfl, rfl⟩ | ⟨rfl, rfl⟩ | ⟨rfl, rfl⟩ | ⟨rfl, rfl⟩ | ⟨rfl, rfl⟩ | ⟨rfl, rfl⟩ | ⟨rfl, rfl⟩ | ⟨rfl, rfl⟩ | ⟨rfl, rfl⟩ | ⟨rfl, rfl⟩ | ⟨rfl, rfl⟩ | ⟨rfl, rfl⟩ | ⟨rfl, rfl⟩ | ⟨rfl, rfl⟩ | ⟨rfl, rfl⟩ | ⟨rfl, rfl⟩ | ⟨rfl, rfl⟩ | ⟨rfl, rfl⟩ | ⟨rfl, rfl⟩ | ⟨rfl, rfl⟩ | ⟨rfl, rfl⟩ | ⟨rfl, rfl⟩
  · have hre : fX0_truthsChanged (nI 0) a_zeros a_ones h_vals = some (0 : Int32) := rfl
    rw [hre] at hrun
    obtain rfl := Option.some.inj hrun
    exact c_X0_tc_0_0 l D kI kJ kS ho hr ao aa a_inputs a_remembered a_asks a_hours a_zeros a_ones a_alarms a_faults so sa vs
  · have hre : fX0_truthsChanged (nI 0) a_zeros a_ones h_vals = some (0 : Int32) := rfl
    rw [hre] at hrun
    obtain rfl := Option.some.inj hrun
    exact c_X0_tc_1_0 l D kI kJ kS ho hr ao aa a_inputs a_remembered a_asks a_hours a_zeros a_ones a_alarms a_faults so sa vs
  · have hre : fX0_truthsChanged (nI 1) a_zeros a_ones h_vals = fX3_truthsOtherThan a_zeros a_ones (h_vals 0).2.2.2.2.1 (h_vals 0).2.2.2.2.2.1 := rfl
    rw [hre] at hrun
    exact c_X0_tc_1_1 l D kI kJ kS ho hr ao aa a_inputs a_remembered a_asks a_hours a_zeros a_ones a_alarms a_faults so sa vs ((tt_congr _ _ (hv 0 (by decide))).trans hrun)
  · have hre : fX0_truthsChanged (nI 0) a_zeros a_ones h_vals = some (0 : Int32) := rfl
    rw [hre] at hrun
    obtain rfl := Option.some.inj hrun
    exact c_X0_tc_2_0 l D kI kJ kS ho hr ao aa a_inputs a_remembered a_asks a_hours a_zeros a_ones a_alarms a_faults so sa vs
  · have hre : fX0_truthsChanged (nI 1) a_zeros a_ones h_vals = fX3_truthsOtherThan a_zeros a_ones (h_vals 0).2.2.2.2.1 (h_vals 0).2.2.2.2.2.1 := rfl
    rw [hre] at hrun
    exact c_X0_tc_2_1 l D kI kJ kS ho hr ao aa a_inputs a_remembered a_asks a_hours a_zeros a_ones a_alarms a_faults so sa vs ((tt_congr _ _ (hv 0 (by decide))).trans hrun)
  · have hre : fX0_truthsChanged (nI 2) a_zeros a_ones h_vals = fX3_truthsOtherThan a_zeros a_ones (h_vals 1).2.2.2.2.1 (h_vals 1).2.2.2.2.2.1 := rfl
    rw [hre] at hrun
    exact c_X0_tc_2_2 l D kI kJ kS ho hr ao aa a_inputs a_remembered a_asks a_hours a_zeros a_ones a_alarms a_faults so sa vs ((tt_congr _ _ (hv 1 (by decide))).trans hrun)
  · have hre : fX0_truthsChanged (nI 0) a_zeros a_ones h_vals = some (0 : Int32) := rfl
    rw [hre] at hrun
    obtain rfl := Option.some.inj hrun
    exact c_X0_tc_3_0 l D kI kJ kS ho hr ao aa a_inputs a_remembered a_asks a_hours a_zeros a_ones a_alarms a_faults so sa vs
  · have hre : fX0_truthsChanged (nI 1) a_zeros a_ones h_vals = fX3_truthsOtherThan a_zeros a_ones (h_vals 0).2.2.2.2.1 (h_vals 0).2.2.2.2.2.1 := rfl
    rw [hre] at hrun
    exact c_X0_tc_3_1 l D kI kJ kS ho hr ao aa a_inputs a_remembered a_asks a_hours a_zeros a_ones a_alarms a_faults so sa vs ((tt_congr _ _ (hv 0 (by decide))).trans hrun)
  · have hre : fX0_truthsChanged (nI 2) a_zeros a_ones h_vals = fX3_truthsOtherThan a_zeros a_ones (h_vals 1).2.2.2.2.1 (h_vals 1).2.2.2.2.2.1 := rfl
    rw [hre] at hrun
    exact c_X0_tc_3_2 l D kI kJ kS ho hr ao aa a_inputs a_remembered a_asks a_hours a_zeros a_ones a_alarms a_faults so sa vs ((tt_congr _ _ (hv 1 (by decide))).trans hrun)
  · have hre : fX0_truthsChanged (nI 3) a_zeros a_ones h_vals = fX3_truthsOtherThan a_zeros a_ones (h_vals 2).2.2.2.2.1 (h_vals 2).2.2.2.2.2.1 := rfl
    rw [hre] at hrun
    exact c_X0_tc_3_3 l D kI kJ kS ho hr ao aa a_inputs a_remembered a_asks a_hours a_zeros a_ones a_alarms a_faults so sa vs ((tt_congr _ _ (hv 2 (by decide))).trans hrun)
  · have hre : fX0_truthsChanged (nI 0) a_zeros a_ones h_vals = some (0 : Int32) := rfl
    rw [hre] at hrun
    obtain rfl := Option.some.inj hrun
    exact c_X0_tc_4_0 l D kI kJ kS ho hr ao aa a_inputs a_remembered a_asks a_hours a_zeros a_ones a_alarms a_faults so sa vs
  · have hre : fX0_truthsChanged (nI 1) a_zeros a_ones h_vals = fX3_truthsOtherThan a_zeros a_ones (h_vals 0).2.2.2.2.1 (h_vals 0).2.2.2.2.2.1 := rfl
    rw [hre] at hrun
    exact c_X0_tc_4_1 l D kI kJ kS ho hr ao aa a_inputs a_remembered a_asks a_hours a_zeros a_ones a_alarms a_faults so sa vs ((tt_congr _ _ (hv 0 (by decide))).trans hrun)
  · have hre : fX0_truthsChanged (nI 2) a_zeros a_ones h_vals = fX3_truthsOtherThan a_zeros a_ones (h_vals 1).2.2.2.2.1 (h_vals 1).2.2.2.2.2.1 := rfl
    rw [hre] at hrun
    exact c_X0_tc_4_2 l D kI kJ kS ho hr ao aa a_inputs a_remembered a_asks a_hours a_zeros a_ones a_alarms a_faults so sa vs ((tt_congr _ _ (hv 1 (by decide))).trans hrun)
  · have hre : fX0_truthsChanged (nI 3) a_zeros a_ones h_vals = fX3_truthsOtherThan a_zeros a_ones (h_vals 2).2.2.2.2.1 (h_vals 2).2.2.2.2.2.1 := rfl
    rw [hre] at hrun
    exact c_X0_tc_4_3 l D kI kJ kS ho hr ao aa a_inputs a_remembered a_asks a_hours a_zeros a_ones a_alarms a_faults so sa vs ((tt_congr _ _ (hv 2 (by decide))).trans hrun)
  · have hre : fX0_truthsChanged (nI 4) a_zeros a_ones h_vals = fX3_truthsOtherThan a_zeros a_ones (h_vals 3).2.2.2.2.1 (h_vals 3).2.2.2.2.2.1 := rfl
    rw [hre] at hrun
    exact c_X0_tc_4_4 l D kI kJ kS ho hr ao aa a_inputs a_remembered a_asks a_hours a_zeros a_ones a_alarms a_faults so sa vs ((tt_congr _ _ (hv 3 (by decide))).trans hrun)
  · have hre : fX0_truthsChanged (nI 0) a_zeros a_ones h_vals = some (0 : Int32) := rfl
    rw [hre] at hrun
    obtain rfl := Option.some.inj hrun
    exact c_X0_tc_5_0 l D kI kJ kS ho hr ao aa a_inputs a_remembered a_asks a_hours a_zeros a_ones a_alarms a_faults so sa vs
  · have hre : fX0_truthsChanged (nI 1) a_zeros a_ones h_vals = fX3_truthsOtherThan a_zeros a_ones (h_vals 0).2.2.2.2.1 (h_vals 0).2.2.2.2.2.1 := rfl
    rw [hre] at hrun
    exact c_X0_tc_5_1 l D kI kJ kS ho hr ao aa a_inputs a_remembered a_asks a_hours a_zeros a_ones a_alarms a_faults so sa vs ((tt_congr _ _ (hv 0 (by decide))).trans hrun)
  · have hre : fX0_truthsChanged (nI 2) a_zeros a_ones h_vals = fX3_truthsOtherThan a_zeros a_ones (h_vals 1).2.2.2.2.1 (h_vals 1).2.2.2.2.2.1 := rfl
    rw [hre] at hrun
    exact c_X0_tc_5_2 l D kI kJ kS ho hr ao aa a_inputs a_remembered a_asks a_hours a_zeros a_ones a_alarms a_faults so sa vs ((tt_congr _ _ (hv 1 (by decide))).trans hrun)
  · have hre : fX0_truthsChanged (nI 3) a_zeros a_ones h_vals = fX3_truthsOtherThan a_zeros a_ones (h_vals 2).2.2.2.2.1 (h_vals 2).2.2.2.2.2.1 := rfl
    rw [hre] at hrun
    exact c_X0_tc_5_3 l D kI kJ kS ho hr ao aa a_inputs a_remembered a_asks a_hours a_zeros a_ones a_alarms a_faults so sa vs ((tt_congr _ _ (hv 2 (by decide))).trans hrun)
  · have hre : fX0_truthsChanged (nI 4) a_zeros a_ones h_vals = fX3_truthsOtherThan a_zeros a_ones (h_vals 3).2.2.2.2.1 (h_vals 3).2.2.2.2.2.1 := rfl
    rw [hre] at hrun
    exact c_X0_tc_5_4 l D kI kJ kS ho hr ao aa a_inputs a_remembered a_asks a_hours a_zeros a_ones a_alarms a_faults so sa vs ((tt_congr _ _ (hv 3 (by decide))).trans hrun)
  · have hre : fX0_truthsChanged (nI 5) a_zeros a_ones h_vals = fX3_truthsOtherThan a_zeros a_ones (h_vals 4).2.2.2.2.1 (h_vals 4).2.2.2.2.2.1 := rfl
    rw [hre] at hrun
    exact c_X0_tc_5_5 l D kI kJ kS ho hr ao aa a_inputs a_remembered a_asks a_hours a_zeros a_ones a_alarms a_faults so sa vs ((tt_congr _ _ (hv 4 (by decide))).trans hrun)
  · have hre : fX0_truthsChanged (nI 0) a_zeros a_ones h_vals = some (0 : Int32) := rfl
    rw [hre] at hrun
    obtain rfl := Option.some.inj hrun
    exact c_X0_tc_6_0 l D kI kJ kS ho hr ao aa a_inputs a_remembered a_asks a_hours a_zeros a_ones a_alarms a_faults so sa vs
  · have hre : fX0_truthsChanged (nI 1) a_zeros a_ones h_vals = fX3_truthsOtherThan a_zeros a_ones (h_vals 0).2.2.2.2.1 (h_vals 0).2.2.2.2.2.1 := rfl
    rw [hre] at hrun
    exact c_X0_tc_6_1 l D kI kJ kS ho hr ao aa a_inputs a_remembered a_asks a_hours a_zeros a_ones a_alarms a_faults so sa vs ((tt_congr _ _ (hv 0 (by decide))).trans hrun)
  · have hre : fX0_truthsChanged (nI 2) a_zeros a_ones h_vals = fX3_truthsOtherThan a_zeros a_ones (h_vals 1).2.2.2.2.1 (h_vals 1).2.2.2.2.2.1 := rfl
    rw [hre] at hrun
    exact c_X0_tc_6_2 l D kI kJ kS ho hr ao aa a_inputs a_remembered a_asks a_hours a_zeros a_ones a_alarms a_faults so sa vs ((tt_congr _ _ (hv 1 (by decide))).trans hrun)
  · have hre : fX0_truthsChanged (nI 3) a_zeros a_ones h_vals = fX3_truthsOtherThan a_zeros a_ones (h_vals 2).2.2.2.2.1 (h_vals 2).2.2.2.2.2.1 := rfl
    rw [hre] at hrun
    exact c_X0_tc_6_3 l D kI kJ kS ho hr ao aa a_inputs a_remembered a_asks a_hours a_zeros a_ones a_alarms a_faults so sa vs ((tt_congr _ _ (hv 2 (by decide))).trans hrun)
  · have hre : fX0_truthsChanged (nI 4) a_zeros a_ones h_vals = fX3_truthsOtherThan a_zeros a_ones (h_vals 3).2.2.2.2.1 (h_vals 3).2.2.2.2.2.1 := rfl
    rw [hre] at hrun
    exact c_X0_tc_6_4 l D kI kJ kS ho hr ao aa a_inputs a_remembered a_asks a_hours a_zeros a_ones a_alarms a_faults so sa vs ((tt_congr _ _ (hv 3 (by decide))).trans hrun)
  · have hre : fX0_truthsChanged (nI 5) a_zeros a_ones h_vals = fX3_truthsOtherThan a_zeros a_ones (h_vals 4).2.2.2.2.1 (h_vals 4).2.2.2.2.2.1 := rfl
    rw [hre] at hrun
    exact c_X0_tc_6_5 l D kI kJ kS ho hr ao aa a_inputs a_remembered a_asks a_hours a_zeros a_ones a_alarms a_faults so sa vs ((tt_congr _ _ (hv 4 (by decide))).trans hrun)
  · have hre : fX0_truthsChanged (nI 6) a_zeros a_ones h_vals = fX3_truthsOtherThan a_zeros a_ones (h_vals 5).2.2.2.2.1 (h_vals 5).2.2.2.2.2.1 := rfl
    rw [hre] at hrun
    exact c_X0_tc_6_6 l D kI kJ kS ho hr ao aa a_inputs a_remembered a_asks a_hours a_zeros a_ones a_alarms a_faults so sa vs ((tt_congr _ _ (hv 5 (by decide))).trans hrun)
theorem TL_bb {kI kJ kS : ClassId} {hr : Nat} {h_size : Int32} {a_inputs : Int32} {a_remembered : Int32} {a_asks : Int32} {a_hours : Int32} {a_zeros : Nat → Int64} {a_ones : Nat → Int64} {a_alarms : Nat → Int32} {a_faults : Nat → Int32} {h_vals : Nat → SV} {tl : va_W} {q : Int32 × Int32 × Int32 × Int32 × Int32 × Int32 × (Nat → Int64) × (Nat → Int64) × (Nat → Int32) × (Nat → Int32)} (htl : TL kI kJ kS hr h_size h_vals tl) (h : fX0_bringBack h_size a_inputs a_remembered a_asks a_hours a_zeros a_ones a_alarms a_faults h_vals = some q) : TL kI kJ kS hr q.2.1 h_vals tl := by
  obtain ⟨n, k, so, sa, vs, hn, hk, hs, hv, ht⟩ := htl
  unfold fX0_bringBack at h
  split at h
  · cases h
    exact ⟨n, k, so, sa, vs, hn, hk, hs, hv, ht⟩
  · rename_i hc
    obtain ⟨q2, -, h⟩ := bd_some h
    cases h
    cases k with
    | zero => exact absurd (by rw [hs]; decide) hc
    | succ k => exact ⟨n, k, so, sa, vs, hn, by omega, by rw [hs]; exact nI_pred k, fun j hj => hv j (by omega), ht⟩
theorem bb_same {h_size : Int32} {a_inputs : Int32} {a_remembered : Int32} {a_asks : Int32} {a_hours : Int32} {a_zeros : Nat → Int64} {a_ones : Nat → Int64} {a_alarms : Nat → Int32} {a_faults : Nat → Int32} {h_vals : Nat → SV} {q : Int32 × Int32 × Int32 × Int32 × Int32 × Int32 × (Nat → Int64) × (Nat → Int64) × (Nat → Int32) × (Nat → Int32)} (h : fX0_bringBack h_size a_inputs a_remembered a_asks a_hours a_zeros a_ones a_alarms a_faults h_vals = some q) (h0 : q.1 = 0) : q.2.1 = h_size ∧ q.2.2.1 = a_inputs ∧ q.2.2.2.1 = a_remembered ∧ q.2.2.2.2.1 = a_asks ∧ q.2.2.2.2.2.1 = a_hours ∧ q.2.2.2.2.2.2.1 = a_zeros ∧ q.2.2.2.2.2.2.2.1 = a_ones ∧ q.2.2.2.2.2.2.2.2.1 = a_alarms ∧ q.2.2.2.2.2.2.2.2.2 = a_faults := by
  unfold fX0_bringBack at h
  split at h
  · cases h
    exact ⟨rfl, rfl, rfl, rfl, rfl, rfl, rfl, rfl, rfl⟩
  · obtain ⟨q2, -, h⟩ := bd_some h
    cases h
    exact absurd (show (1 : Int32) = 0 from h0) (by decide)
