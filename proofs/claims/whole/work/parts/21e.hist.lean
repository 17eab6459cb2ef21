theorem TL_bb {kI kJ kS : ClassId} {hr : Nat} {h_size : Int32} {a_inputs : Int32} {a_remembered : Int32} {a_asks : Int32} {a_hours : Int32} {a_zeros : Nat → Int64} {a_ones : Nat → Int64} {a_alarms : Nat → Int32} {a_faults : Nat → Int32} {h_vals : Nat → SV} {tl : va_W} {q : Int32 × Int32 × Int32 × Int32 × Int32 × Int32 × (Nat → Int64) × (Nat → Int64) × (Nat → Int32) × (Nat → Int32)} (htl : TL kI kJ kS hr h_size h_vals tl) (h : fX0_bringBack h_size a_inputs a_remembered a_asks a_hours a_zeros a_ones a_alarms a_faults h_vals = some q) : TL kI kJ kS hr q.2.1 h_vals tl := by
  obtain ⟨n, k, so, sa, vs, hn, hk, hs, hv, ht⟩ := htl
  unfold fX0_bringBack at h
  split at h
  · cases h
    exact ⟨n, k, so, sa, vs, hn, hk, hs, hv, ht⟩
  · rename_i hc
    obtain ⟨q2, -, h⟩ := bd_some h
    cases h
    cases k with
    | zero => exact absurd (by rw [hs]; decide) hc
    | succ k => exact ⟨n, k, so, sa, vs, hn, by omega, by rw [hs]; exact nI_pred k, fun j hj => hv j (by omega), ht⟩
theorem bb_same {h_size : Int32} {a_inputs : Int32} {a_remembered : Int32} {a_asks : Int32} {a_hours : Int32} {a_zeros : Nat → Int64} {a_ones : Nat → Int64} {a_alarms : Nat → Int32} {a_faults : Nat → Int32} {h_vals : Nat → SV} {q : Int32 × Int32 × Int32 × Int32 × Int32 × Int32 × (Nat → Int64) × (Nat → Int64) × (Nat → Int32) × (Nat → Int32)} (h : fX0_bringBack h_size a_inputs a_remembered a_asks a_hours a_zeros a_ones a_alarms a_faults h_vals = some q) (h0 : q.1 = 0) : q.2.1 = h_size ∧ q.2.2.1 = a_inputs ∧ q.2.2.2.1 = a_remembered ∧ q.2.2.2.2.1 = a_asks ∧ q.2.2.2.2.2.1 = a_hours ∧ q.2.2.2.2.2.2.1 = a_zeros ∧ q.2.2.2.2.2.2.2.1 = a_ones ∧ q.2.2.2.2.2.2.2.2.1 = a_alarms ∧ q.2.2.2.2.2.2.2.2.2 = a_faults := by
  unfold fX0_bringBack at h
  split at h
  · cases h
    exact ⟨rfl, rfl, rfl, rfl, rfl, rfl, rfl, rfl, rfl⟩
  · obtain ⟨q2, -, h⟩ := bd_some h
    cases h
    exact absurd (show (1 : Int32) = 0 from h0) (by decide)
