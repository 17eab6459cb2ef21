theorem mX3_undecidedPairs_1 : Cond.fieldLink RX3 15 "GateMaze$State" "ones" "[J" ∈ wsX3_undecidedPairs := List.mem_of_getElem? (i := 1) rfl
theorem mX3_undecidedPairs_2 : Cond.fieldLink RX3 9 "GateMaze$State" "zeros" "[J" ∈ wsX3_undecidedPairs := List.mem_of_getElem? (i := 2) rfl
theorem iX3_undecidedPairs_X3 : ∀ w ∈ u_ws RX3 TX3 8, w ∈ wsX3_undecidedPairs := fun w h => List.mem_cons_of_mem _ (List.mem_append_right _ h)
set_option maxHeartbeats 4000000 in
set_option maxRecDepth 100000 in
theorem c_X3_undecidedPairs (l : Launch) (D : va_G) (kI kJ kS : ClassId) (to : Nat) (ta : Nat → Nat) (x1 : Int32) (t_inputs : Int32) (t_remembered : Int32) (t_asks : Int32) (t_hours : Int32) (t_zeros : (Nat → Int64)) (t_ones : (Nat → Int64)) (t_alarms : (Nat → Int32)) (t_faults : (Nat → Int32)) {r : Int32} (hrun : fX3_undecidedPairs t_zeros t_ones x1 = some r) : cI l D (tyL kI kJ kS) true yX3_undecidedPairs wsX3_undecidedPairs (rmk 1 0 0 28) [.ref to, .int x1] (wX3 kI kJ to ta t_inputs t_remembered t_asks t_hours t_zeros t_ones t_alarms t_faults) (wX3 kI kJ to ta t_inputs t_remembered t_asks t_hours t_zeros t_ones t_alarms t_faults) r := by
  refine cI_of (cc := cX3_undecidedPairs) (maxL := 6) (by decide) rfl (Nat.le_of_ble_eq_true rfl) ?_
  intro p e s m av below meth c A Q ls hE hP hD hS hl hret
  have hE : ent_ p s m av meth c RX3 cX3_undecidedPairs 6 (some .int) wsX3_undecidedPairs (tyL kI kJ kS) D A true := hE
  obtain ⟨hx, hb, hml, hown, hts, hr, hlocks, hK, hA, hst⟩ := id hE
  have hl : lv_has ls 6 [(0, .ref to), (1, .int x1)] := hl
  obtain ⟨⟨⟨tW, hZ, hT⟩, hU1, hU2⟩, hnk⟩ := hst rfl
  have c_L4 : ∀ (x1 : Int32) (n : Nat) (x2 : Int32) (x3 : Int32), fX3_undecidedPairs_L4 x1 t_zeros t_ones n x2 x3 = some r → wAt p l e (rmk 1 0 0 28) s m av below meth c D A 6 0 0 Q 4 [] [(0, .ref to), (1, .int x1), (2, .int x2), (3, .int x3)] (wX3 kI kJ to ta t_inputs t_remembered t_asks t_hours t_zeros t_ones t_alarms t_faults) := by
    intro x1 n
    induction n with
    | zero =>
      intro x2 x3 hrun
      rw [fX3_undecidedPairs_L4] at hrun
      cases hrun
    | succ n ih =>
      intro x2 x3 hrun H locs ls hP hD hS hl
      rw [fX3_undecidedPairs_L4] at hrun
      refine lv_iload_n hx hb dX3_undecidedPairs_4 rfl (lv_at hl 3 rfl) ?_
      refine lv_iconst (v := 4) hx hb dX3_undecidedPairs_5 (by decide) ?_
      refine lv_icmp_ge (tgt := 46) hx hb dX3_undecidedPairs_6 (by decide) (fun hc => ?_) (fun hc => ?_)
      · have hrun := it_t hc hrun
        refine lv_iload_n hx hb dX3_undecidedPairs_46 rfl (lv_at hl 2 rfl) ?_
        obtain rfl := Option.some.inj hrun
        exact hret _ _ _ _ rfl dX3_undecidedPairs_47 hP hD hS
      · have hrun := it_f hc hrun
        refine lv_aload_n hx hb dX3_undecidedPairs_9 rfl (lv_at hl 0 rfl) ?_
        refine va_get (D := D) (ci := 2) (v := .ref (ta 1)) (C := RX3) (T := TX3) (N := 8) hx hb hts iX3_undecidedPairs_X3 hown hK hP 0 rfl rfl 5 (by decide) (hts _ mX3_undecidedPairs_1) (fun _ h9 => h9) rfl dX3_undecidedPairs_10 ?_
        refine lv_iload_n hx hb dX3_undecidedPairs_13 rfl (lv_at hl 3 rfl) ?_
        obtain ⟨hin, hrun⟩ := gd_some hrun
        refine va_lald hx hb hK hP 2 1 rfl rfl hin dX3_undecidedPairs_14 ?_
        refine lv_iload_n hx hb dX3_undecidedPairs_15 rfl (lv_at hl 1 rfl) ?_
        obtain ⟨q_1, hq_1, hrun⟩ := bd_some hrun
        refine cL_callS (As := [.long (t_ones x3.toNatClampNeg), .int x1]) (rest := []) (wr := (wX3 kI kJ to ta t_inputs t_remembered t_asks t_hours t_zeros t_ones t_alarms t_faults)) (wN := (wX3 kI kJ to ta t_inputs t_remembered t_asks t_hours t_zeros t_ones t_alarms t_faults)) hE (c_X2_alikeTo l D kI kJ kS (t_ones x3.toNatClampNeg) x1  hq_1) (va_cwS 2 hts gX3_undecidedPairs_X2_alikeTo rfl rfl rfl (by decide +kernel) ⟨Nat.le_of_ble_eq_true rfl, Nat.le_of_ble_eq_true rfl⟩) hP hD hS [] [0, 1, 2, 3, 4] [0, 1, 2, 3, 4] rfl rfl rfl rfl (by decide) rfl rfl rfl hl.1 rfl (Nat.le_of_ble_eq_true rfl) dX3_undecidedPairs_16 ⟨Nat.le_of_ble_eq_true rfl, Nat.le_of_ble_eq_true rfl⟩ (fun H locs hP hD hS => ?_)
        refine lv_lstore (lv' := [(4, .long q_1), (0, .ref to), (1, .int x1), (2, .int x2), (3, .int x3)]) hx hb dX3_undecidedPairs_19 hl (by decide) rfl (fun ls hl => ?_)
        refine lv_iload_n hx hb dX3_undecidedPairs_21 rfl (lv_at hl 3 rfl) ?_
        refine lv_lload hx hb dX3_undecidedPairs_22 (lv_at hl 0 rfl) ?_
        refine lv_aload_n hx hb dX3_undecidedPairs_24 rfl (lv_at hl 1 rfl) ?_
        refine va_get (D := D) (ci := 2) (v := .ref (ta 0)) (C := RX3) (T := TX3) (N := 8) hx hb hts iX3_undecidedPairs_X3 hown hK hP 0 rfl rfl 4 (by decide) (hts _ mX3_undecidedPairs_2) (fun _ h9 => h9) rfl dX3_undecidedPairs_25 ?_
        refine lv_iload_n hx hb dX3_undecidedPairs_28 rfl (lv_at hl 4 rfl) ?_
        obtain ⟨hin, hrun⟩ := gd_some hrun
        refine va_lald hx hb hK hP 1 1 rfl rfl hin dX3_undecidedPairs_29 ?_
        refine lv_iload_n hx hb dX3_undecidedPairs_30 rfl (lv_at hl 2 rfl) ?_
        obtain ⟨q_2, hq_2, hrun⟩ := bd_some hrun
        refine cL_callS (As := [.long (t_zeros x3.toNatClampNeg), .int x1]) (rest := [.long q_1, .int x2]) (wr := (wX3 kI kJ to ta t_inputs t_remembered t_asks t_hours t_zeros t_ones t_alarms t_faults)) (wN := (wX3 kI kJ to ta t_inputs t_remembered t_asks t_hours t_zeros t_ones t_alarms t_faults)) hE (c_X2_alikeTo l D kI kJ kS (t_zeros x3.toNatClampNeg) x1  hq_2) (va_cwS 2 hts gX3_undecidedPairs_X2_alikeTo rfl rfl rfl (by decide +kernel) ⟨Nat.le_of_ble_eq_true rfl, Nat.le_of_ble_eq_true rfl⟩) hP hD hS [] [0, 1, 2, 3, 4] [0, 1, 2, 3, 4] rfl rfl rfl rfl (by decide) rfl rfl rfl hl.1 rfl (Nat.le_of_ble_eq_true rfl) dX3_undecidedPairs_31 ⟨Nat.le_of_ble_eq_true rfl, Nat.le_of_ble_eq_true rfl⟩ (fun H locs hP hD hS => ?_)
        refine lv_land hx hb dX3_undecidedPairs_34 ?_
        obtain ⟨q_3, hq_3, hrun⟩ := bd_some hrun
        refine cI_callS (As := [.long (q_1 &&& q_2)]) (rest := [.int x2]) (wr := (wX3 kI kJ to ta t_inputs t_remembered t_asks t_hours t_zeros t_ones t_alarms t_faults)) (wN := (wX3 kI kJ to ta t_inputs t_remembered t_asks t_hours t_zeros t_ones t_alarms t_faults)) hE (c_J13_bitCount_95d88 l D kI kJ kS (q_1 &&& q_2)  hq_3) (va_cwS 1 hts gX3_undecidedPairs_J13_bitCount_95d88 rfl rfl rfl (by decide +kernel) ⟨Nat.le_of_ble_eq_true rfl, Nat.le_of_ble_eq_true rfl⟩) hP hD hS [] [0, 1, 2, 3, 4] [0, 1, 2, 3, 4] rfl rfl rfl rfl (by decide) rfl rfl rfl hl.1 rfl (Nat.le_of_ble_eq_true rfl) dX3_undecidedPairs_35 ⟨Nat.le_of_ble_eq_true rfl, Nat.le_of_ble_eq_true rfl⟩ (fun H locs hP hD hS => ?_)
        refine lv_iadd hx hb dX3_undecidedPairs_38 ?_
        refine lv_istore_n (lv' := [(2, .int (x2 + q_3)), (4, .long q_1), (0, .ref to), (1, .int x1), (3, .int x3)]) hx hb dX3_undecidedPairs_39 rfl hl (by decide) rfl (fun ls hl => ?_)
        refine lv_iinc (v := x3 + 1) (lv' := [(3, .int (x3 + 1)), (2, .int (x2 + q_3)), (4, .long q_1), (0, .ref to), (1, .int x1)]) hx hb dX3_undecidedPairs_40 hl (k := 4) rfl rfl (by decide) rfl (fun ls hl => ?_)
        refine lv_goto (tgt := 4) hx hb dX3_undecidedPairs_43 (by decide) ?_
        exact ih (x2 + q_3) (x3 + 1)  hrun _ _ _ hP hD hS (lv_sub hl [3, 4, 1, 0] rfl)
  unfold fX3_undecidedPairs at hrun
  refine lv_iconst (v := 0) hx hb dX3_undecidedPairs_0 (by decide) ?_
  refine lv_istore_n (lv' := [(2, .int 0), (0, .ref to), (1, .int x1)]) hx hb dX3_undecidedPairs_1 rfl hl (by decide) rfl (fun ls hl => ?_)
  refine lv_iconst (v := 0) hx hb dX3_undecidedPairs_2 (by decide) ?_
  refine lv_istore_n (lv' := [(3, .int 0), (2, .int 0), (0, .ref to), (1, .int x1)]) hx hb dX3_undecidedPairs_3 rfl hl (by decide) rfl (fun ls hl => ?_)
  exact c_L4 x1 5000 0 0  hrun _ _ _ hP hD hS (lv_sub hl [2, 3, 1, 0] rfl)
theorem mX3_leastMissed_1 : Cond.fieldLink RX3 25 "GateMaze$State" "inputs" "I" ∈ wsX3_leastMissed := List.mem_of_getElem? (i := 1) rfl
theorem iX3_leastMissed_X3 : ∀ w ∈ u_ws RX3 TX3 8, w ∈ wsX3_leastMissed := fun w h => List.mem_cons_of_mem _ (List.mem_append_right _ h)
set_option maxHeartbeats 4000000 in
set_option maxRecDepth 100000 in
theorem c_X3_leastMissed (l : Launch) (D : va_G) (kI kJ kS : ClassId) (to : Nat) (ta : Nat → Nat) (t_inputs : Int32) (t_remembered : Int32) (t_asks : Int32) (t_hours : Int32) (t_zeros : (Nat → Int64)) (t_ones : (Nat → Int64)) (t_alarms : (Nat → Int32)) (t_faults : (Nat → Int32)) {r : Int32} (hrun : fX3_leastMissed t_inputs t_remembered t_zeros t_ones = some r) : cI l D (tyL kI kJ kS) true yX3_leastMissed wsX3_leastMissed (rmk 2 0 0 53) [.ref to] (wX3 kI kJ to ta t_inputs t_remembered t_asks t_hours t_zeros t_ones t_alarms t_faults) (wX3 kI kJ to ta t_inputs t_remembered t_asks t_hours t_zeros t_ones t_alarms t_faults) r := by
  refine cI_of (cc := cX3_leastMissed) (maxL := 5) (by decide) rfl (Nat.le_of_ble_eq_true rfl) ?_
  intro p e s m av below meth c A Q ls hE hP hD hS hl hret
  have hE : ent_ p s m av meth c RX3 cX3_leastMissed 5 (some .int) wsX3_leastMissed (tyL kI kJ kS) D A true := hE
  obtain ⟨hx, hb, hml, hown, hts, hr, hlocks, hK, hA, hst⟩ := id hE
  have hl : lv_has ls 5 [(0, .ref to)] := hl
  obtain ⟨⟨⟨tW, hZ, hT⟩, hU1, hU2⟩, hnk⟩ := hst rfl
  have c_J52 : ∀ (x1 : Int32) (x2 : Int32) (x3 : Int32) (k6 : Int32 → Int32 → Int32 → Option (Int32)) (hk6 : (∀ (x1 : Int32) (x2 : Int32) (x3 : Int32), k6 x1 x2 x3 = some r → wAt p l e (rmk 2 0 0 53) s m av below meth c D A 5 0 0 Q 6 [] [(0, .ref to), (1, .int x1), (2, .int x2), (3, .int x3)] (wX3 kI kJ to ta t_inputs t_remembered t_asks t_hours t_zeros t_ones t_alarms t_faults))), fX3_leastMissed_J52 x1 x2 x3 t_inputs t_remembered t_zeros t_ones k6 = some r → wAt p l e (rmk 2 0 0 53) s m av below meth c D A 5 0 0 Q 52 [] [(0, .ref to), (1, .int x1), (2, .int x2), (3, .int x3)] (wX3 kI kJ to ta t_inputs t_remembered t_asks t_hours t_zeros t_ones t_alarms t_faults) := by
    intro x1 x2 x3 k6 hk6 hrun H locs ls hP hD hS hl
    unfold fX3_leastMissed_J52 at hrun
    refine lv_iinc (v := x3 + 1) (lv' := [(3, .int (x3 + 1)), (0, .ref to), (1, .int x1), (2, .int x2)]) hx hb dX3_leastMissed_52 hl (k := 3) rfl rfl (by decide) rfl (fun ls hl => ?_)
    refine lv_goto (tgt := 6) hx hb dX3_leastMissed_55 (by decide) ?_
    exact hk6 x1 x2 (x3 + 1)  hrun _ _ _ hP hD hS (lv_sub hl [1, 2, 3, 0] rfl)
  have c_J47 : ∀ (x3 : Int32) (x4 : Int32) (k6 : Int32 → Int32 → Int32 → Option (Int32)) (hk6 : (∀ (x1 : Int32) (x2 : Int32) (x3 : Int32), k6 x1 x2 x3 = some r → wAt p l e (rmk 2 0 0 53) s m av below meth c D A 5 0 0 Q 6 [] [(0, .ref to), (1, .int x1), (2, .int x2), (3, .int x3)] (wX3 kI kJ to ta t_inputs t_remembered t_asks t_hours t_zeros t_ones t_alarms t_faults))), fX3_leastMissed_J47 x3 x4 t_inputs t_remembered t_zeros t_ones k6 = some r → wAt p l e (rmk 2 0 0 53) s m av below meth c D A 5 0 0 Q 47 [] [(0, .ref to), (3, .int x3), (4, .int x4)] (wX3 kI kJ to ta t_inputs t_remembered t_asks t_hours t_zeros t_ones t_alarms t_faults) := by
    intro x3 x4 k6 hk6 hrun H locs ls hP hD hS hl
    unfold fX3_leastMissed_J47 at hrun
    refine lv_iload_n hx hb dX3_leastMissed_47 rfl (lv_at hl 1 rfl) ?_
    refine lv_istore_n (lv' := [(1, .int x3), (0, .ref to), (3, .int x3), (4, .int x4)]) hx hb dX3_leastMissed_48 rfl hl (by decide) rfl (fun ls hl => ?_)
    refine lv_iload hx hb dX3_leastMissed_49 (lv_at hl 3 rfl) ?_
    refine lv_istore_n (lv' := [(2, .int x4), (1, .int x3), (0, .ref to), (3, .int x3), (4, .int x4)]) hx hb dX3_leastMissed_51 rfl hl (by decide) rfl (fun ls hl => ?_)
    exact c_J52 x3 x4 x3 k6 hk6  hrun _ _ _ hP hD hS (lv_sub hl [2, 1, 0, 3] rfl)
  have c_J58 : ∀ (x1 : Int32), fX3_leastMissed_J58 x1 = some r → wAt p l e (rmk 2 0 0 53) s m av below meth c D A 5 0 0 Q 58 [] [(1, .int x1)] (wX3 kI kJ to ta t_inputs t_remembered t_asks t_hours t_zeros t_ones t_alarms t_faults) := by
    intro x1 hrun H locs ls hP hD hS hl
    unfold fX3_leastMissed_J58 at hrun
    refine lv_iload_n hx hb dX3_leastMissed_58 rfl (lv_at hl 0 rfl) ?_
    refine lv_iconst (v := (-1)) hx hb dX3_leastMissed_59 (by decide) ?_
    refine lv_icmp_ne (tgt := 67) hx hb dX3_leastMissed_60 (by decide) (fun hc => ?_) (fun hc => ?_)
    · have hrun := it_f hc hrun
      refine lv_iload_n hx hb dX3_leastMissed_67 rfl (lv_at hl 0 rfl) ?_
      obtain rfl := Option.some.inj hrun
      exact hret _ _ _ _ rfl dX3_leastMissed_68 hP hD hS
    · have hrun := it_t hc hrun
      refine lv_iconst (v := 0) hx hb dX3_leastMissed_63 (by decide) ?_
      refine lv_goto (tgt := 68) hx hb dX3_leastMissed_64 (by decide) ?_
      obtain rfl := Option.some.inj hrun
      exact hret _ _ _ _ rfl dX3_leastMissed_68 hP hD hS
  have c_L6 : ∀  (n : Nat) (x1 : Int32) (x2 : Int32) (x3 : Int32), fX3_leastMissed_L6 t_inputs t_remembered t_zeros t_ones n x1 x2 x3 = some r → wAt p l e (rmk 2 0 0 53) s m av below meth c D A 5 0 0 Q 6 [] [(0, .ref to), (1, .int x1), (2, .int x2), (3, .int x3)] (wX3 kI kJ to ta t_inputs t_remembered t_asks t_hours t_zeros t_ones t_alarms t_faults) := by
    intro  n
    induction n with
    | zero =>
      intro x1 x2 x3 hrun
      rw [fX3_leastMissed_L6] at hrun
      cases hrun
    | succ n ih =>
      intro x1 x2 x3 hrun H locs ls hP hD hS hl
      rw [fX3_leastMissed_L6] at hrun
      refine lv_iload_n hx hb dX3_leastMissed_6 rfl (lv_at hl 3 rfl) ?_
      refine lv_aload_n hx hb dX3_leastMissed_7 rfl (lv_at hl 0 rfl) ?_
      refine va_get (D := D) (ci := 2) (v := .int t_inputs) (C := RX3) (T := TX3) (N := 8) hx hb hts iX3_leastMissed_X3 hown hK hP 0 rfl rfl 0 (by decide) (hts _ mX3_leastMissed_1) (fun _ h9 => h9) rfl dX3_leastMissed_8 ?_
      refine lv_icmp_ge (tgt := 58) hx hb dX3_leastMissed_11 (by decide) (fun hc => ?_) (fun hc => ?_)
      · have hrun := it_t hc hrun
        exact c_J58 x1  hrun _ _ _ hP hD hS (lv_sub hl [1] rfl)
      · have hrun := it_f hc hrun
        refine lv_aload_n hx hb dX3_leastMissed_14 rfl (lv_at hl 0 rfl) ?_
        refine lv_iload_n hx hb dX3_leastMissed_15 rfl (lv_at hl 3 rfl) ?_
        obtain ⟨q_1, hq_1, hrun⟩ := bd_some hrun
        refine cI_callV (As := [.int x3]) (rest := []) (wr := []) (wN := (wX3 kI kJ to ta t_inputs t_remembered t_asks t_hours t_zeros t_ones t_alarms t_faults)) (ci := 2) (q0 := 0) hE (c_X3_remembers l D kI kJ kS to ta x3 t_inputs t_remembered t_asks t_hours t_zeros t_ones t_alarms t_faults hq_1) (cwV 1 hts gX3_leastMissed_X3_remembers rfl rfl rfl (by decide +kernel) ⟨Nat.le_of_ble_eq_true rfl, Nat.le_of_ble_eq_true rfl⟩) hP hD hS [0, 1, 2, 3, 4] [] [0, 1, 2, 3, 4] rfl rfl rfl rfl (by decide) rfl rfl rfl rfl rfl hl.1 rfl (Nat.le_of_ble_eq_true rfl) dX3_leastMissed_16 ⟨Nat.le_of_ble_eq_true rfl, Nat.le_of_ble_eq_true rfl⟩ (fun H locs hP hD hS => ?_)
        refine lv_if_eq (tgt := 52) hx hb dX3_leastMissed_19 (by decide) (fun hc => ?_) (fun hc => ?_)
        · have hrun := it_t hc hrun
          exact c_J52 x1 x2 x3 (fX3_leastMissed_L6 t_inputs t_remembered t_zeros t_ones n) ih  hrun _ _ _ hP hD hS (lv_sub hl [0, 1, 2, 3] rfl)
        · have hrun := it_f hc hrun
          refine lv_aload_n hx hb dX3_leastMissed_22 rfl (lv_at hl 0 rfl) ?_
          refine lv_aload_n hx hb dX3_leastMissed_23 rfl (lv_at hl 0 rfl) ?_
          obtain ⟨q_2, hq_2, hrun⟩ := bd_some hrun
          refine cI_callV (As := []) (rest := [.ref to]) (wr := []) (wN := (wX3 kI kJ to ta t_inputs t_remembered t_asks t_hours t_zeros t_ones t_alarms t_faults)) (ci := 2) (q0 := 0) hE (c_X3_forgotten l D kI kJ kS to ta  t_inputs t_remembered t_asks t_hours t_zeros t_ones t_alarms t_faults hq_2) (cwV 0 hts gX3_leastMissed_X3_forgotten rfl rfl rfl (by decide +kernel) ⟨Nat.le_of_ble_eq_true rfl, Nat.le_of_ble_eq_true rfl⟩) hP hD hS [0, 1, 2, 3, 4] [] [0, 1, 2, 3, 4] rfl rfl rfl rfl (by decide) rfl rfl rfl rfl rfl hl.1 rfl (Nat.le_of_ble_eq_true rfl) dX3_leastMissed_24 ⟨Nat.le_of_ble_eq_true rfl, Nat.le_of_ble_eq_true rfl⟩ (fun H locs hP hD hS => ?_)
          refine lv_iconst (v := 1) hx hb dX3_leastMissed_27 (by decide) ?_
          refine lv_iload_n hx hb dX3_leastMissed_28 rfl (lv_at hl 3 rfl) ?_
          refine lv_ishl hx hb dX3_leastMissed_29 ?_
          refine lv_ior hx hb dX3_leastMissed_30 ?_
          obtain ⟨q_3, hq_3, hrun⟩ := bd_some hrun
          refine cI_callV (As := [.int (q_2 ||| ((1 : Int32) <<< (x3 &&& 31)))]) (rest := []) (wr := []) (wN := (wX3 kI kJ to ta t_inputs t_remembered t_asks t_hours t_zeros t_ones t_alarms t_faults)) (ci := 2) (q0 := 0) hE (c_X3_undecidedPairs l D kI kJ kS to ta (q_2 ||| ((1 : Int32) <<< (x3 &&& 31))) t_inputs t_remembered t_asks t_hours t_zeros t_ones t_alarms t_faults hq_3) (cwV 1 hts gX3_leastMissed_X3_undecidedPairs rfl rfl rfl (by decide +kernel) ⟨Nat.le_of_ble_eq_true rfl, Nat.le_of_ble_eq_true rfl⟩) hP hD hS [0, 1, 2, 3, 4] [] [0, 1, 2, 3, 4] rfl rfl rfl rfl (by decide) rfl rfl rfl rfl rfl hl.1 rfl (Nat.le_of_ble_eq_true rfl) dX3_leastMissed_31 ⟨Nat.le_of_ble_eq_true rfl, Nat.le_of_ble_eq_true rfl⟩ (fun H locs hP hD hS => ?_)
          refine lv_istore (lv' := [(4, .int q_3), (0, .ref to), (1, .int x1), (2, .int x2), (3, .int x3)]) hx hb dX3_leastMissed_34 hl (by decide) rfl (fun ls hl => ?_)
          refine lv_iload_n hx hb dX3_leastMissed_36 rfl (lv_at hl 2 rfl) ?_
          refine lv_iconst (v := (-1)) hx hb dX3_leastMissed_37 (by decide) ?_
          refine lv_icmp_eq (tgt := 47) hx hb dX3_leastMissed_38 (by decide) (fun hc => ?_) (fun hc => ?_)
          · have hrun := it_t hc hrun
            exact c_J47 x3 q_3 (fX3_leastMissed_L6 t_inputs t_remembered t_zeros t_ones n) ih  hrun _ _ _ hP hD hS (lv_sub hl [1, 4, 0] rfl)
          · have hrun := it_f hc hrun
            refine lv_iload hx hb dX3_leastMissed_41 (lv_at hl 0 rfl) ?_
            refine lv_iload_n hx hb dX3_leastMissed_43 rfl (lv_at hl 3 rfl) ?_
            refine lv_icmp_ge (tgt := 52) hx hb dX3_leastMissed_44 (by decide) (fun hc => ?_) (fun hc => ?_)
            · have hrun := it_t hc hrun
              exact c_J52 x1 x2 x3 (fX3_leastMissed_L6 t_inputs t_remembered t_zeros t_ones n) ih  hrun _ _ _ hP hD hS (lv_sub hl [1, 2, 3, 4] rfl)
            · have hrun := it_f hc hrun
              exact c_J47 x3 q_3 (fX3_leastMissed_L6 t_inputs t_remembered t_zeros t_ones n) ih  hrun _ _ _ hP hD hS (lv_sub hl [1, 4, 0] rfl)
  unfold fX3_leastMissed at hrun
  refine lv_iconst (v := (-1)) hx hb dX3_leastMissed_0 (by decide) ?_
  refine lv_istore_n (lv' := [(1, .int ((-1))), (0, .ref to)]) hx hb dX3_leastMissed_1 rfl hl (by decide) rfl (fun ls hl => ?_)
  refine lv_iconst (v := 0) hx hb dX3_leastMissed_2 (by decide) ?_
  refine lv_istore_n (lv' := [(2, .int 0), (1, .int ((-1))), (0, .ref to)]) hx hb dX3_leastMissed_3 rfl hl (by decide) rfl (fun ls hl => ?_)
  refine lv_iconst (v := 0) hx hb dX3_leastMissed_4 (by decide) ?_
  refine lv_istore_n (lv' := [(3, .int 0), (2, .int 0), (1, .int ((-1))), (0, .ref to)]) hx hb dX3_leastMissed_5 rfl hl (by decide) rfl (fun ls hl => ?_)
  exact c_L6  5000 ((-1)) 0 0  hrun _ _ _ hP hD hS (lv_sub hl [3, 2, 1, 0] rfl)
theorem mX5_coverWith_4 : Cond.fieldLink RX5 21 "GateMaze$View" "answers" "[J" ∈ wsX5_coverWith := List.mem_of_getElem? (i := 4) rfl
theorem mX5_coverWith_5 : Cond.fieldLink RX5 28 "GateMaze$View" "sizes" "[I" ∈ wsX5_coverWith := List.mem_of_getElem? (i := 5) rfl
theorem mX5_coverWith_2 : Cond.fieldLink RX5 31 "GateMaze$View" "codes" "[I" ∈ wsX5_coverWith := List.mem_of_getElem? (i := 2) rfl
theorem mX5_coverWith_3 : Cond.constantLong RX5 61 (-1) ∈ wsX5_coverWith := List.mem_of_getElem? (i := 3) rfl
theorem mX5_coverWith_7 : Cond.initialized RX6 ∈ wsX5_coverWith := List.mem_of_getElem? (i := 7) rfl
theorem mX5_coverWith_6 : Cond.static yX6_isOutput ∈ wsX5_coverWith := List.mem_of_getElem? (i := 6) rfl
theorem mX5_coverWith_1 : Cond.fieldLink RX5 15 "GateMaze$View" "ones" "[J" ∈ wsX5_coverWith := List.mem_of_getElem? (i := 1) rfl
theorem iX5_coverWith_X1 : ∀ w ∈ u_ws RX1 TX1 4, w ∈ wsX5_coverWith := fun w h => List.mem_cons_of_mem _ (List.mem_append_right _ h)
theorem iX5_coverWith_X5 : ∀ w ∈ u_ws RX5 TX5 12, w ∈ wsX5_coverWith := fun w h => List.mem_cons_of_mem _ (List.mem_append_left _ (List.mem_append_right _ h))
set_option maxHeartbeats 4000000 in
set_option maxRecDepth 100000 in
theorem c_X5_coverWith (l : Launch) (D : va_G) (kI kJ kS : ClassId) (to : Nat) (ta : Nat → Nat) (bo : Nat) (ba : Nat → Nat) (x2 : Int32) (t_inputs : Int32) (t_undecidedPairs : Int32) (t_parts : Int32) (t_sharedParts : Int32) (t_partCares : Int32) (t_zeros : (Nat → Int64)) (t_ones : (Nat → Int64)) (t_undecided : (Nat → Int64)) (t_answers : (Nat → Int64)) (t_primeCounts : (Nat → Int32)) (t_sizes : (Nat → Int32)) (t_codes : (Nat → Int32)) (b_bad : (Nat → Int64)) (b_codes : (Nat → Int32)) (b_rows : (Nat → Int64)) (b_size : Int32) {r : (Nat → Int64) × (Nat → Int32) × (Nat → Int32)} (hrun : fX5_coverWith t_ones t_answers t_sizes t_codes b_codes b_rows b_size x2 = some r) : cV l D (tyL kI kJ kS) true yX5_coverWith wsX5_coverWith (rmk 2 0 0 49) [.ref to, .ref bo, .int x2] (wX5 kI kJ to ta t_inputs t_undecidedPairs t_parts t_sharedParts t_partCares t_zeros t_ones t_undecided t_answers t_primeCounts t_sizes t_codes ++ (wX1 kI kJ bo ba b_bad b_codes b_rows b_size)) (wX5 kI kJ to ta t_inputs t_undecidedPairs t_parts t_sharedParts t_partCares t_zeros t_ones t_undecided r.1 t_primeCounts r.2.1 r.2.2 ++ (wX1 kI kJ bo ba b_bad b_codes b_rows b_size)) := by
  refine cV_of (cc := cX5_coverWith) (maxL := 10) (by decide) rfl (Nat.le_of_ble_eq_true rfl) ?_
  intro p e s m av below meth c A Q ls hE hP hD hS hl hret
  have hE : ent_ p s m av meth c RX5 cX5_coverWith 10 none wsX5_coverWith (tyL kI kJ kS) D A true := hE
  obtain ⟨hx, hb, hml, hown, hts, hr, hlocks, hK, hA, hst⟩ := id hE
  have hl : lv_has ls 10 [(0, .ref to), (1, .ref bo), (2, .int x2)] := hl
  obtain ⟨⟨⟨tW, hZ, hT⟩, hU1, hU2⟩, hnk⟩ := hst rfl
  have c_J114 : ∀ (x2 : Int32) (x5 : Int64) (x7 : Int32) (t_answers : (Nat → Int64)) (t_sizes : (Nat → Int32)) (t_codes : (Nat → Int32)), fX5_coverWith_J114 x2 x5 x7 t_answers t_sizes t_codes = some r → wAt p l e (rmk 2 0 0 49) s m av below meth c D A 10 0 0 Q 114 [] [(0, .ref to), (2, .int x2), (5, .long x5), (7, .int x7)] (wX5 kI kJ to ta t_inputs t_undecidedPairs t_parts t_sharedParts t_partCares t_zeros t_ones t_undecided t_answers t_primeCounts t_sizes t_codes ++ (wX1 kI kJ bo ba b_bad b_codes b_rows b_size)) := by
    intro x2 x5 x7 t_answers t_sizes t_codes hrun H locs ls hP hD hS hl
    unfold fX5_coverWith_J114 at hrun
    refine lv_aload_n hx hb dX5_coverWith_114 rfl (lv_at hl 0 rfl) ?_
    refine va_get (D := D) (ci := 4) (v := .ref (ta 3)) (C := RX5) (T := TX5) (N := 12) hx hb hts iX5_coverWith_X5 hown hK hP 0 rfl rfl 8 (by decide) (hts _ mX5_coverWith_4) (fun _ h9 => h9) rfl dX5_coverWith_115 ?_
    refine lv_iload_n hx hb dX5_coverWith_118 rfl (lv_at hl 1 rfl) ?_
    refine lv_lload hx hb dX5_coverWith_119 (lv_at hl 2 rfl) ?_
    obtain ⟨hin, hrun⟩ := gd_some hrun
    refine va_last hx hb hK hP hD hS 4 1 rfl rfl hin dX5_coverWith_121 (fun H locs hP hD hS => ?_)
    have hP : va_P D vwCl (wX5 kI kJ to ta t_inputs t_undecidedPairs t_parts t_sharedParts t_partCares t_zeros t_ones t_undecided (vp_updL t_answers x2.toNatClampNeg x5) t_primeCounts t_sizes t_codes ++ (wX1 kI kJ bo ba b_bad b_codes b_rows b_size)) H := hP
    have hD : va_D A (wX5 kI kJ to ta t_inputs t_undecidedPairs t_parts t_sharedParts t_partCares t_zeros t_ones t_undecided (vp_updL t_answers x2.toNatClampNeg x5) t_primeCounts t_sizes t_codes ++ (wX1 kI kJ bo ba b_bad b_codes b_rows b_size)) := hD
    refine lv_aload_n hx hb dX5_coverWith_122 rfl (lv_at hl 0 rfl) ?_
    refine va_get (D := D) (ci := 4) (v := .ref (ta 5)) (C := RX5) (T := TX5) (N := 12) hx hb hts iX5_coverWith_X5 hown hK hP 0 rfl rfl 10 (by decide) (hts _ mX5_coverWith_5) (fun _ h9 => h9) rfl dX5_coverWith_123 ?_
    refine lv_iload_n hx hb dX5_coverWith_126 rfl (lv_at hl 1 rfl) ?_
    refine lv_iload hx hb dX5_coverWith_127 (lv_at hl 3 rfl) ?_
    obtain ⟨hin, hrun⟩ := gd_some hrun
    refine va_iast hx hb hK hP hD hS 6 0 rfl rfl hin dX5_coverWith_129 (fun H locs hP hD hS => ?_)
    have hP : va_P D vwCl (wX5 kI kJ to ta t_inputs t_undecidedPairs t_parts t_sharedParts t_partCares t_zeros t_ones t_undecided (vp_updL t_answers x2.toNatClampNeg x5) t_primeCounts (upd t_sizes x2.toNatClampNeg x7) t_codes ++ (wX1 kI kJ bo ba b_bad b_codes b_rows b_size)) H := hP
    have hD : va_D A (wX5 kI kJ to ta t_inputs t_undecidedPairs t_parts t_sharedParts t_partCares t_zeros t_ones t_undecided (vp_updL t_answers x2.toNatClampNeg x5) t_primeCounts (upd t_sizes x2.toNatClampNeg x7) t_codes ++ (wX1 kI kJ bo ba b_bad b_codes b_rows b_size)) := hD
    obtain rfl := Option.some.inj hrun
    exact hret _ _ _ _ dX5_coverWith_130 hP hD hS
  have c_J57 : ∀ (x2 : Int32) (x5 : Int64) (x7 : Int32) (t_answers : (Nat → Int64)) (t_sizes : (Nat → Int32)) (t_codes : (Nat → Int32)), fX5_coverWith_J57 x2 x5 x7 t_answers t_sizes t_codes = some r → wAt p l e (rmk 2 0 0 49) s m av below meth c D A 10 0 0 Q 57 [] [(0, .ref to), (2, .int x2), (5, .long x5), (7, .int x7)] (wX5 kI kJ to ta t_inputs t_undecidedPairs t_parts t_sharedParts t_partCares t_zeros t_ones t_undecided t_answers t_primeCounts t_sizes t_codes ++ (wX1 kI kJ bo ba b_bad b_codes b_rows b_size)) := by
    intro x2 x5 x7 t_answers t_sizes t_codes hrun H locs ls hP hD hS hl
    unfold fX5_coverWith_J57 at hrun
    refine lv_goto (tgt := 114) hx hb dX5_coverWith_57 (by decide) ?_
    exact c_J114 x2 x5 x7 t_answers t_sizes t_codes  hrun _ _ _ hP hD hS (lv_sub hl [0, 1, 2, 3] rfl)
  have c_L24 : ∀ (x2 : Int32) (t_answers : (Nat → Int64)) (t_sizes : (Nat → Int32)) (n : Nat) (x3 : Int64) (x5 : Int64) (x7 : Int32) (x8 : Int32) (t_codes : (Nat → Int32)), fX5_coverWith_L24 x2 t_answers t_sizes b_codes b_rows b_size n x3 x5 x7 x8 t_codes = some r → wAt p l e (rmk 2 0 0 49) s m av below meth c D A 10 0 0 Q 24 [] [(0, .ref to), (1, .ref bo), (2, .int x2), (3, .long x3), (5, .long x5), (7, .int x7), (8, .int x8)] (wX5 kI kJ to ta t_inputs t_undecidedPairs t_parts t_sharedParts t_partCares t_zeros t_ones t_undecided t_answers t_primeCounts t_sizes t_codes ++ (wX1 kI kJ bo ba b_bad b_codes b_rows b_size)) := by
    intro x2 t_answers t_sizes n
    induction n with
    | zero =>
      intro x3 x5 x7 x8 t_codes hrun
      rw [fX5_coverWith_L24] at hrun
      cases hrun
    | succ n ih =>
      intro x3 x5 x7 x8 t_codes hrun H locs ls hP hD hS hl
      rw [fX5_coverWith_L24] at hrun
      refine lv_iload hx hb dX5_coverWith_24 (lv_at hl 6 rfl) ?_
      refine lv_bipush (v := 64) hx hb dX5_coverWith_26 (by decide) ?_
      refine lv_icmp_ge (tgt := 114) hx hb dX5_coverWith_28 (by decide) (fun hc => ?_) (fun hc => ?_)
      · have hrun := it_t hc hrun
        exact c_J114 x2 x5 x7 t_answers t_sizes t_codes  hrun _ _ _ hP hD hS (lv_sub hl [0, 2, 4, 5] rfl)
      · have hrun := it_f hc hrun
        refine lv_lload_n hx hb dX5_coverWith_31 rfl (lv_at hl 3 rfl) ?_
        refine lv_lconst (v := 0) hx hb dX5_coverWith_32 (by decide) ?_
        refine W.lcmp hx hb dX5_coverWith_33 ?_
        refine lv_if_eq (tgt := 114) hx hb dX5_coverWith_34 (by decide) (fun hc => ?_) (fun hc => ?_)
        · have hrun := it_t hc hrun
          exact c_J114 x2 x5 x7 t_answers t_sizes t_codes  hrun _ _ _ hP hD hS (lv_sub hl [0, 2, 4, 5] rfl)
        · have hrun := it_f hc hrun
          refine lv_aload_n hx hb dX5_coverWith_37 rfl (lv_at hl 1 rfl) ?_
          refine lv_lload_n hx hb dX5_coverWith_38 rfl (lv_at hl 3 rfl) ?_
          obtain ⟨q_1, hq_1, hrun⟩ := bd_some hrun
          refine cI_callV (As := [.long x3]) (rest := []) (wr := (wX5 kI kJ to ta t_inputs t_undecidedPairs t_parts t_sharedParts t_partCares t_zeros t_ones t_undecided t_answers t_primeCounts t_sizes t_codes)) (wN := (wX5 kI kJ to ta t_inputs t_undecidedPairs t_parts t_sharedParts t_partCares t_zeros t_ones t_undecided t_answers t_primeCounts t_sizes t_codes ++ (wX1 kI kJ bo ba b_bad b_codes b_rows b_size))) (ci := 1) (q0 := 8) hE (c_X1_bestFor l D kI kJ kS bo ba x3 b_bad b_codes b_rows b_size hq_1) (cwV 1 hts gX5_coverWith_X1_bestFor rfl rfl rfl (by decide +kernel) ⟨Nat.le_of_ble_eq_true rfl, Nat.le_of_ble_eq_true rfl⟩) hP hD hS [8, 9, 10, 11] [0, 1, 2, 3, 4, 5, 6, 7] [0, 1, 2, 3, 4, 5, 6, 7, 8, 9, 10, 11] rfl rfl rfl rfl (by decide) rfl rfl rfl rfl rfl hl.1 rfl (Nat.le_of_ble_eq_true rfl) dX5_coverWith_39 ⟨Nat.le_of_ble_eq_true rfl, Nat.le_of_ble_eq_true rfl⟩ (fun H locs hP hD hS => ?_)
          refine lv_istore (lv' := [(9, .int q_1), (0, .ref to), (1, .ref bo), (2, .int x2), (3, .long x3), (5, .long x5), (7, .int x7), (8, .int x8)]) hx hb dX5_coverWith_42 hl (by decide) rfl (fun ls hl => ?_)
          refine lv_iload hx hb dX5_coverWith_44 (lv_at hl 0 rfl) ?_
          refine lv_if_lt (tgt := 114) hx hb dX5_coverWith_46 (by decide) (fun hc => ?_) (fun hc => ?_)
          · have hrun := it_t hc hrun
            exact c_J114 x2 x5 x7 t_answers t_sizes t_codes  hrun _ _ _ hP hD hS (lv_sub hl [1, 3, 5, 6] rfl)
          · have hrun := it_f hc hrun
            refine lv_iload hx hb dX5_coverWith_49 (lv_at hl 0 rfl) ?_
            refine lv_sipush (v := 729) hx hb dX5_coverWith_51 (by decide) ?_
            refine lv_icmp_lt (tgt := 60) hx hb dX5_coverWith_54 (by decide) (fun hc => ?_) (fun hc => ?_)
            · have hrun := it_t hc hrun
              refine lv_aload_n hx hb dX5_coverWith_60 rfl (lv_at hl 1 rfl) ?_
              refine va_get (D := D) (ci := 4) (v := .ref (ta 6)) (C := RX5) (T := TX5) (N := 12) hx hb hts iX5_coverWith_X5 hown hK hP 0 rfl rfl 11 (by decide) (hts _ mX5_coverWith_2) (fun _ h9 => h9) rfl dX5_coverWith_61 ?_
              refine lv_iload_n hx hb dX5_coverWith_64 rfl (lv_at hl 3 rfl) ?_
              refine lv_bipush (v := 64) hx hb dX5_coverWith_65 (by decide) ?_
              refine lv_imul hx hb dX5_coverWith_67 ?_
              refine lv_iload hx hb dX5_coverWith_68 (lv_at hl 7 rfl) ?_
              refine lv_iadd hx hb dX5_coverWith_70 ?_
              refine lv_aload_n hx hb dX5_coverWith_71 rfl (lv_at hl 2 rfl) ?_
              refine va_getN (D := D) (ci := 1) (v := .ref (ba 1)) (C := RX1) (T := TX1) (N := 4) hx hb hts iX5_coverWith_X1 hown hK hP 8 rfl rfl 1 (by decide) (nf_10 hnk) (fun _ h9 => h9) rfl dX5_coverWith_72 ?_
              refine lv_iload hx hb dX5_coverWith_75 (lv_at hl 0 rfl) ?_
              obtain ⟨hin, hrun⟩ := gd_some hrun
              refine va_iald hx hb hK hP 10 0 rfl rfl hin dX5_coverWith_77 ?_
              obtain ⟨hin, hrun⟩ := gd_some hrun
              refine va_iast hx hb hK hP hD hS 7 0 rfl rfl hin dX5_coverWith_78 (fun H locs hP hD hS => ?_)
              have hP : va_P D vwCl (wX5 kI kJ to ta t_inputs t_undecidedPairs t_parts t_sharedParts t_partCares t_zeros t_ones t_undecided t_answers t_primeCounts t_sizes (upd t_codes ((x2 * 64) + x8).toNatClampNeg (b_codes q_1.toNatClampNeg)) ++ (wX1 kI kJ bo ba b_bad b_codes b_rows b_size)) H := hP
              have hD : va_D A (wX5 kI kJ to ta t_inputs t_undecidedPairs t_parts t_sharedParts t_partCares t_zeros t_ones t_undecided t_answers t_primeCounts t_sizes (upd t_codes ((x2 * 64) + x8).toNatClampNeg (b_codes q_1.toNatClampNeg)) ++ (wX1 kI kJ bo ba b_bad b_codes b_rows b_size)) := hD
              obtain ⟨u_2, eu_2⟩ : ∃ y, y = upd t_codes ((x2 * 64) + x8).toNatClampNeg (b_codes q_1.toNatClampNeg) := ⟨_, rfl⟩
              have hrun := lt_some eu_2 hrun
              rw [← eu_2] at hP hD
              refine lv_lload hx hb dX5_coverWith_79 (lv_at hl 5 rfl) ?_
              refine lv_aload_n hx hb dX5_coverWith_81 rfl (lv_at hl 2 rfl) ?_
              refine va_getN (D := D) (ci := 1) (v := .ref (ba 2)) (C := RX1) (T := TX1) (N := 4) hx hb hts iX5_coverWith_X1 hown hK hP 8 rfl rfl 2 (by decide) (nf_11 hnk) (fun _ h9 => h9) rfl dX5_coverWith_82 ?_
              refine lv_iload hx hb dX5_coverWith_85 (lv_at hl 0 rfl) ?_
              obtain ⟨hin, hrun⟩ := gd_some hrun
              refine va_lald hx hb hK hP 11 1 rfl rfl hin dX5_coverWith_87 ?_
              refine lv_lor hx hb dX5_coverWith_88 ?_
              refine lv_lstore (lv' := [(5, .long (x5 ||| (b_rows q_1.toNatClampNeg))), (9, .int q_1), (0, .ref to), (1, .ref bo), (2, .int x2), (3, .long x3), (7, .int x7), (8, .int x8)]) hx hb dX5_coverWith_89 hl (by decide) rfl (fun ls hl => ?_)
              refine lv_lload_n hx hb dX5_coverWith_91 rfl (lv_at hl 5 rfl) ?_
              refine lv_aload_n hx hb dX5_coverWith_92 rfl (lv_at hl 3 rfl) ?_
              refine va_getN (D := D) (ci := 1) (v := .ref (ba 2)) (C := RX1) (T := TX1) (N := 4) hx hb hts iX5_coverWith_X1 hown hK hP 8 rfl rfl 2 (by decide) (nf_11 hnk) (fun _ h9 => h9) rfl dX5_coverWith_93 ?_
              refine lv_iload hx hb dX5_coverWith_96 (lv_at hl 1 rfl) ?_
              obtain ⟨hin, hrun⟩ := gd_some hrun
              refine va_lald hx hb hK hP 11 1 rfl rfl hin dX5_coverWith_98 ?_
              refine lv_ldc2 (v := (-1)) hx hb hown (hts _ mX5_coverWith_3) dX5_coverWith_99 ?_
              refine lv_lxor hx hb dX5_coverWith_102 ?_
              refine lv_land hx hb dX5_coverWith_103 ?_
              refine lv_lstore_n (lv' := [(3, .long (x3 &&& ((b_rows q_1.toNatClampNeg) ^^^ ((-1))))), (5, .long (x5 ||| (b_rows q_1.toNatClampNeg))), (9, .int q_1), (0, .ref to), (1, .ref bo), (2, .int x2), (7, .int x7), (8, .int x8)]) hx hb dX5_coverWith_104 rfl hl (by decide) rfl (fun ls hl => ?_)
              refine lv_iinc (v := x7 + 1) (lv' := [(7, .int (x7 + 1)), (3, .long (x3 &&& ((b_rows q_1.toNatClampNeg) ^^^ ((-1))))), (5, .long (x5 ||| (b_rows q_1.toNatClampNeg))), (9, .int q_1), (0, .ref to), (1, .ref bo), (2, .int x2), (8, .int x8)]) hx hb dX5_coverWith_105 hl (k := 6) rfl rfl (by decide) rfl (fun ls hl => ?_)
              refine lv_iinc (v := x8 + 1) (lv' := [(8, .int (x8 + 1)), (7, .int (x7 + 1)), (3, .long (x3 &&& ((b_rows q_1.toNatClampNeg) ^^^ ((-1))))), (5, .long (x5 ||| (b_rows q_1.toNatClampNeg))), (9, .int q_1), (0, .ref to), (1, .ref bo), (2, .int x2)]) hx hb dX5_coverWith_108 hl (k := 7) rfl rfl (by decide) rfl (fun ls hl => ?_)
              refine lv_goto (tgt := 24) hx hb dX5_coverWith_111 (by decide) ?_
              exact ih (x3 &&& ((b_rows q_1.toNatClampNeg) ^^^ ((-1)))) (x5 ||| (b_rows q_1.toNatClampNeg)) (x7 + 1) (x8 + 1) u_2  hrun _ _ _ hP hD hS (lv_sub hl [5, 6, 7, 2, 3, 1, 0] rfl)
            · have hrun := it_f hc hrun
              exact c_J57 x2 x5 x7 t_answers t_sizes t_codes  hrun _ _ _ hP hD hS (lv_sub hl [1, 3, 5, 6] rfl)
  unfold fX5_coverWith at hrun
  refine lv_iload_n hx hb dX5_coverWith_0 rfl (lv_at hl 2 rfl) ?_
  obtain ⟨q_3, hq_3, hrun⟩ := bd_some hrun
  refine cI_callSN (As := [.int x2]) (rest := []) (wr := (wX5 kI kJ to ta t_inputs t_undecidedPairs t_parts t_sharedParts t_partCares t_zeros t_ones t_undecided t_answers t_primeCounts t_sizes t_codes ++ (wX1 kI kJ bo ba b_bad b_codes b_rows b_size))) (wN := (wX5 kI kJ to ta t_inputs t_undecidedPairs t_parts t_sharedParts t_partCares t_zeros t_ones t_undecided t_answers t_primeCounts t_sizes t_codes ++ (wX1 kI kJ bo ba b_bad b_codes b_rows b_size))) hE (c_X6_isOutput l D kI kJ kS x2  hq_3) ⟨va_cnB 1 hts ggX5_coverWith_X6_isOutput rfl rfl rfl (nm_6 hnk) (hts _ mX5_coverWith_7) (by decide +kernel) ⟨Nat.le_of_ble_eq_true rfl, Nat.le_of_ble_eq_true rfl⟩, hts _ mX5_coverWith_6, trivial⟩ hP hD hS [] [0, 1, 2, 3, 4, 5, 6, 7, 8, 9, 10, 11] [0, 1, 2, 3, 4, 5, 6, 7, 8, 9, 10, 11] rfl rfl rfl rfl (by decide) rfl rfl rfl hl.1 rfl (Nat.le_of_ble_eq_true rfl) dX5_coverWith_1 ⟨Nat.le_of_ble_eq_true rfl, Nat.le_of_ble_eq_true rfl⟩ (fun H locs hP hD hS => ?_)
  refine lv_if_ne (tgt := 8) hx hb dX5_coverWith_4 (by decide) (fun hc => ?_) (fun hc => ?_)
  · have hrun := it_f hc hrun
    refine lv_aload_n hx hb dX5_coverWith_8 rfl (lv_at hl 0 rfl) ?_
    refine va_get (D := D) (ci := 4) (v := .ref (ta 1)) (C := RX5) (T := TX5) (N := 12) hx hb hts iX5_coverWith_X5 hown hK hP 0 rfl rfl 6 (by decide) (hts _ mX5_coverWith_1) (fun _ h9 => h9) rfl dX5_coverWith_9 ?_
    refine lv_iload_n hx hb dX5_coverWith_12 rfl (lv_at hl 2 rfl) ?_
    obtain ⟨hin, hrun⟩ := gd_some hrun
    refine va_lald hx hb hK hP 2 1 rfl rfl hin dX5_coverWith_13 ?_
    refine lv_lstore_n (lv' := [(3, .long (t_ones x2.toNatClampNeg)), (0, .ref to), (1, .ref bo), (2, .int x2)]) hx hb dX5_coverWith_14 rfl hl (by decide) rfl (fun ls hl => ?_)
    refine lv_lconst (v := 0) hx hb dX5_coverWith_15 (by decide) ?_
    refine lv_lstore (lv' := [(5, .long 0), (3, .long (t_ones x2.toNatClampNeg)), (0, .ref to), (1, .ref bo), (2, .int x2)]) hx hb dX5_coverWith_16 hl (by decide) rfl (fun ls hl => ?_)
    refine lv_iconst (v := 0) hx hb dX5_coverWith_18 (by decide) ?_
    refine lv_istore (lv' := [(7, .int 0), (5, .long 0), (3, .long (t_ones x2.toNatClampNeg)), (0, .ref to), (1, .ref bo), (2, .int x2)]) hx hb dX5_coverWith_19 hl (by decide) rfl (fun ls hl => ?_)
    refine lv_iconst (v := 0) hx hb dX5_coverWith_21 (by decide) ?_
    refine lv_istore (lv' := [(8, .int 0), (7, .int 0), (5, .long 0), (3, .long (t_ones x2.toNatClampNeg)), (0, .ref to), (1, .ref bo), (2, .int x2)]) hx hb dX5_coverWith_22 hl (by decide) rfl (fun ls hl => ?_)
    exact c_L24 x2 t_answers t_sizes 5000 (t_ones x2.toNatClampNeg) 0 0 0 t_codes  hrun _ _ _ hP hD hS (lv_sub hl [4, 5, 6, 3, 2, 1, 0] rfl)
  · have hrun := it_t hc hrun
    obtain rfl := Option.some.inj hrun
    exact hret _ _ _ _ dX5_coverWith_7 hP hD hS
theorem mX5_holdersOf_1 : Cond.fieldLink RX5 28 "GateMaze$View" "sizes" "[I" ∈ wsX5_holdersOf := List.mem_of_getElem? (i := 1) rfl
theorem mX5_holdersOf_2 : Cond.fieldLink RX5 31 "GateMaze$View" "codes" "[I" ∈ wsX5_holdersOf := List.mem_of_getElem? (i := 2) rfl
theorem iX5_holdersOf_X5 : ∀ w ∈ u_ws RX5 TX5 12, w ∈ wsX5_holdersOf := fun w h => List.mem_cons_of_mem _ (List.mem_append_right _ h)
set_option maxHeartbeats 4000000 in
set_option maxRecDepth 100000 in
theorem c_X5_holdersOf (l : Launch) (D : va_G) (kI kJ kS : ClassId) (to : Nat) (ta : Nat → Nat) (x1 : Int32) (t_inputs : Int32) (t_undecidedPairs : Int32) (t_parts : Int32) (t_sharedParts : Int32) (t_partCares : Int32) (t_zeros : (Nat → Int64)) (t_ones : (Nat → Int64)) (t_undecided : (Nat → Int64)) (t_answers : (Nat → Int64)) (t_primeCounts : (Nat → Int32)) (t_sizes : (Nat → Int32)) (t_codes : (Nat → Int32)) {r : Int32} (hrun : fX5_holdersOf t_sizes t_codes x1 = some r) : cI l D (tyL kI kJ kS) true yX5_holdersOf wsX5_holdersOf (rmk 0 0 0 0) [.ref to, .int x1] (wX5 kI kJ to ta t_inputs t_undecidedPairs t_parts t_sharedParts t_partCares t_zeros t_ones t_undecided t_answers t_primeCounts t_sizes t_codes) (wX5 kI kJ to ta t_inputs t_undecidedPairs t_parts t_sharedParts t_partCares t_zeros t_ones t_undecided t_answers t_primeCounts t_sizes t_codes) r := by
  refine cI_of (cc := cX5_holdersOf) (maxL := 5) (by decide) rfl (Nat.le_of_ble_eq_true rfl) ?_
  intro p e s m av below meth c A Q ls hE hP hD hS hl hret
  have hE : ent_ p s m av meth c RX5 cX5_holdersOf 5 (some .int) wsX5_holdersOf (tyL kI kJ kS) D A true := hE
  obtain ⟨hx, hb, hml, hown, hts, hr, hlocks, hK, hA, hst⟩ := id hE
  have hl : lv_has ls 5 [(0, .ref to), (1, .int x1)] := hl
  obtain ⟨⟨⟨tW, hZ, hT⟩, hU1, hU2⟩, hnk⟩ := hst rfl
  have c_J52 : ∀ (x1 : Int32) (x2 : Int32) (x3 : Int32) (x4 : Int32) (k12 : Int32 → Int32 → Option (Int32)) (hk12 : (∀ (x2 : Int32) (x4 : Int32), k12 x2 x4 = some r → wAt p l e (rmk 0 0 0 0) s m av below meth c D A 5 0 0 Q 12 [] [(0, .ref to), (1, .int x1), (2, .int x2), (3, .int x3), (4, .int x4)] (wX5 kI kJ to ta t_inputs t_undecidedPairs t_parts t_sharedParts t_partCares t_zeros t_ones t_undecided t_answers t_primeCounts t_sizes t_codes))), fX5_holdersOf_J52 x1 x2 x3 x4 t_sizes t_codes k12 = some r → wAt p l e (rmk 0 0 0 0) s m av below meth c D A 5 0 0 Q 52 [] [(0, .ref to), (1, .int x1), (2, .int x2), (3, .int x3), (4, .int x4)] (wX5 kI kJ to ta t_inputs t_undecidedPairs t_parts t_sharedParts t_partCares t_zeros t_ones t_undecided t_answers t_primeCounts t_sizes t_codes) := by
    intro x1 x2 x3 x4 k12 hk12 hrun H locs ls hP hD hS hl
    unfold fX5_holdersOf_J52 at hrun
    refine lv_iinc (v := x4 + 1) (lv' := [(4, .int (x4 + 1)), (0, .ref to), (1, .int x1), (2, .int x2), (3, .int x3)]) hx hb dX5_holdersOf_52 hl (k := 4) rfl rfl (by decide) rfl (fun ls hl => ?_)
    refine lv_goto (tgt := 12) hx hb dX5_holdersOf_55 (by decide) ?_
    exact hk12 x2 (x4 + 1)  hrun _ _ _ hP hD hS (lv_sub hl [1, 2, 3, 4, 0] rfl)
  have c_J58 : ∀ (x1 : Int32) (x2 : Int32) (x3 : Int32) (k4 : Int32 → Int32 → Option (Int32)) (hk4 : (∀ (x2 : Int32) (x3 : Int32), k4 x2 x3 = some r → wAt p l e (rmk 0 0 0 0) s m av below meth c D A 5 0 0 Q 4 [] [(0, .ref to), (1, .int x1), (2, .int x2), (3, .int x3)] (wX5 kI kJ to ta t_inputs t_undecidedPairs t_parts t_sharedParts t_partCares t_zeros t_ones t_undecided t_answers t_primeCounts t_sizes t_codes))), fX5_holdersOf_J58 x1 x2 x3 t_sizes t_codes k4 = some r → wAt p l e (rmk 0 0 0 0) s m av below meth c D A 5 0 0 Q 58 [] [(0, .ref to), (1, .int x1), (2, .int x2), (3, .int x3)] (wX5 kI kJ to ta t_inputs t_undecidedPairs t_parts t_sharedParts t_partCares t_zeros t_ones t_undecided t_answers t_primeCounts t_sizes t_codes) := by
    intro x1 x2 x3 k4 hk4 hrun H locs ls hP hD hS hl
    unfold fX5_holdersOf_J58 at hrun
    refine lv_iinc (v := x3 + 1) (lv' := [(3, .int (x3 + 1)), (0, .ref to), (1, .int x1), (2, .int x2)]) hx hb dX5_holdersOf_58 hl (k := 3) rfl rfl (by decide) rfl (fun ls hl => ?_)
    refine lv_goto (tgt := 4) hx hb dX5_holdersOf_61 (by decide) ?_
    exact hk4 x2 (x3 + 1)  hrun _ _ _ hP hD hS (lv_sub hl [1, 2, 3, 0] rfl)
  have c_L12 : ∀ (x1 : Int32) (x3 : Int32) (k4 : Int32 → Int32 → Option (Int32)) (hk4 : (∀ (x2 : Int32) (x3 : Int32), k4 x2 x3 = some r → wAt p l e (rmk 0 0 0 0) s m av below meth c D A 5 0 0 Q 4 [] [(0, .ref to), (1, .int x1), (2, .int x2), (3, .int x3)] (wX5 kI kJ to ta t_inputs t_undecidedPairs t_parts t_sharedParts t_partCares t_zeros t_ones t_undecided t_answers t_primeCounts t_sizes t_codes))) (n : Nat) (x2 : Int32) (x4 : Int32), fX5_holdersOf_L12 x1 x3 t_sizes t_codes k4 n x2 x4 = some r → wAt p l e (rmk 0 0 0 0) s m av below meth c D A 5 0 0 Q 12 [] [(0, .ref to), (1, .int x1), (2, .int x2), (3, .int x3), (4, .int x4)] (wX5 kI kJ to ta t_inputs t_undecidedPairs t_parts t_sharedParts t_partCares t_zeros t_ones t_undecided t_answers t_primeCounts t_sizes t_codes) := by
    intro x1 x3 k4 hk4 n
    induction n with
    | zero =>
      intro x2 x4 hrun
      rw [fX5_holdersOf_L12] at hrun
      cases hrun
    | succ n ih =>
      intro x2 x4 hrun H locs ls hP hD hS hl
      rw [fX5_holdersOf_L12] at hrun
      refine lv_iload hx hb dX5_holdersOf_12 (lv_at hl 4 rfl) ?_
      refine lv_aload_n hx hb dX5_holdersOf_14 rfl (lv_at hl 0 rfl) ?_
      refine va_get (D := D) (ci := 4) (v := .ref (ta 5)) (C := RX5) (T := TX5) (N := 12) hx hb hts iX5_holdersOf_X5 hown hK hP 0 rfl rfl 10 (by decide) (hts _ mX5_holdersOf_1) (fun _ h9 => h9) rfl dX5_holdersOf_15 ?_
      refine lv_iload_n hx hb dX5_holdersOf_18 rfl (lv_at hl 3 rfl) ?_
      obtain ⟨hin, hrun⟩ := gd_some hrun
      refine va_iald hx hb hK hP 6 0 rfl rfl hin dX5_holdersOf_19 ?_
      refine lv_icmp_ge (tgt := 58) hx hb dX5_holdersOf_20 (by decide) (fun hc => ?_) (fun hc => ?_)
      · have hrun := it_t hc hrun
        exact c_J58 x1 x2 x3 k4 hk4  hrun _ _ _ hP hD hS (lv_sub hl [0, 1, 2, 3] rfl)
      · have hrun := it_f hc hrun
        refine lv_iload hx hb dX5_holdersOf_23 (lv_at hl 4 rfl) ?_
        refine lv_bipush (v := 64) hx hb dX5_holdersOf_25 (by decide) ?_
        refine lv_icmp_ge (tgt := 58) hx hb dX5_holdersOf_27 (by decide) (fun hc => ?_) (fun hc => ?_)
        · have hrun := it_t hc hrun
          exact c_J58 x1 x2 x3 k4 hk4  hrun _ _ _ hP hD hS (lv_sub hl [0, 1, 2, 3] rfl)
        · have hrun := it_f hc hrun
          refine lv_aload_n hx hb dX5_holdersOf_30 rfl (lv_at hl 0 rfl) ?_
          refine va_get (D := D) (ci := 4) (v := .ref (ta 6)) (C := RX5) (T := TX5) (N := 12) hx hb hts iX5_holdersOf_X5 hown hK hP 0 rfl rfl 11 (by decide) (hts _ mX5_holdersOf_2) (fun _ h9 => h9) rfl dX5_holdersOf_31 ?_
          refine lv_iload_n hx hb dX5_holdersOf_34 rfl (lv_at hl 3 rfl) ?_
          refine lv_bipush (v := 64) hx hb dX5_holdersOf_35 (by decide) ?_
          refine lv_imul hx hb dX5_holdersOf_37 ?_
          refine lv_iload hx hb dX5_holdersOf_38 (lv_at hl 4 rfl) ?_
          refine lv_iadd hx hb dX5_holdersOf_40 ?_
          obtain ⟨hin, hrun⟩ := gd_some hrun
          refine va_iald hx hb hK hP 7 0 rfl rfl hin dX5_holdersOf_41 ?_
          refine lv_iload_n hx hb dX5_holdersOf_42 rfl (lv_at hl 1 rfl) ?_
          refine lv_icmp_ne (tgt := 52) hx hb dX5_holdersOf_43 (by decide) (fun hc => ?_) (fun hc => ?_)
          · have hrun := it_f hc hrun
            exact c_J52 x1 x2 x3 x4 (fX5_holdersOf_L12 x1 x3 t_sizes t_codes k4 n) ih  hrun _ _ _ hP hD hS (lv_sub hl [0, 1, 2, 3, 4] rfl)
          · have hrun := it_t hc hrun
            refine lv_iload_n hx hb dX5_holdersOf_46 rfl (lv_at hl 2 rfl) ?_
            refine lv_iconst (v := 1) hx hb dX5_holdersOf_47 (by decide) ?_
            refine lv_iload_n hx hb dX5_holdersOf_48 rfl (lv_at hl 3 rfl) ?_
            refine lv_ishl hx hb dX5_holdersOf_49 ?_
            refine lv_ior hx hb dX5_holdersOf_50 ?_
            refine lv_istore_n (lv' := [(2, .int (x2 ||| ((1 : Int32) <<< (x3 &&& 31)))), (0, .ref to), (1, .int x1), (3, .int x3), (4, .int x4)]) hx hb dX5_holdersOf_51 rfl hl (by decide) rfl (fun ls hl => ?_)
            exact c_J52 x1 (x2 ||| ((1 : Int32) <<< (x3 &&& 31))) x3 x4 (fX5_holdersOf_L12 x1 x3 t_sizes t_codes k4 n) ih  hrun _ _ _ hP hD hS (lv_sub hl [1, 2, 0, 3, 4] rfl)
  have c_L4 : ∀ (x1 : Int32) (n : Nat) (x2 : Int32) (x3 : Int32), fX5_holdersOf_L4 x1 t_sizes t_codes n x2 x3 = some r → wAt p l e (rmk 0 0 0 0) s m av below meth c D A 5 0 0 Q 4 [] [(0, .ref to), (1, .int x1), (2, .int x2), (3, .int x3)] (wX5 kI kJ to ta t_inputs t_undecidedPairs t_parts t_sharedParts t_partCares t_zeros t_ones t_undecided t_answers t_primeCounts t_sizes t_codes) := by
    intro x1 n
    induction n with
    | zero =>
      intro x2 x3 hrun
      rw [fX5_holdersOf_L4] at hrun
      cases hrun
    | succ n ih =>
      intro x2 x3 hrun H locs ls hP hD hS hl
      rw [fX5_holdersOf_L4] at hrun
      refine lv_iload_n hx hb dX5_holdersOf_4 rfl (lv_at hl 3 rfl) ?_
      refine lv_iconst (v := 4) hx hb dX5_holdersOf_5 (by decide) ?_
      refine lv_icmp_ge (tgt := 64) hx hb dX5_holdersOf_6 (by decide) (fun hc => ?_) (fun hc => ?_)
      · have hrun := it_t hc hrun
        refine lv_iload_n hx hb dX5_holdersOf_64 rfl (lv_at hl 2 rfl) ?_
        obtain rfl := Option.some.inj hrun
        exact hret _ _ _ _ rfl dX5_holdersOf_65 hP hD hS
      · have hrun := it_f hc hrun
        refine lv_iconst (v := 0) hx hb dX5_holdersOf_9 (by decide) ?_
        refine lv_istore (lv' := [(4, .int 0), (0, .ref to), (1, .int x1), (2, .int x2), (3, .int x3)]) hx hb dX5_holdersOf_10 hl (by decide) rfl (fun ls hl => ?_)
        exact c_L12 x1 x3 (fX5_holdersOf_L4 x1 t_sizes t_codes n) ih 5000 x2 0  hrun _ _ _ hP hD hS (lv_sub hl [1, 2, 3, 4, 0] rfl)
  unfold fX5_holdersOf at hrun
  refine lv_iconst (v := 0) hx hb dX5_holdersOf_0 (by decide) ?_
  refine lv_istore_n (lv' := [(2, .int 0), (0, .ref to), (1, .int x1)]) hx hb dX5_holdersOf_1 rfl hl (by decide) rfl (fun ls hl => ?_)
  refine lv_iconst (v := 0) hx hb dX5_holdersOf_2 (by decide) ?_
  refine lv_istore_n (lv' := [(3, .int 0), (2, .int 0), (0, .ref to), (1, .int x1)]) hx hb dX5_holdersOf_3 rfl hl (by decide) rfl (fun ls hl => ?_)
  exact c_L4 x1 5000 0 0  hrun _ _ _ hP hD hS (lv_sub hl [2, 3, 1, 0] rfl)
theorem mX5_countParts_2 : Cond.fieldLink RX5 99 "GateMaze$View" "sharedParts" "I" ∈ wsX5_countParts := List.mem_of_getElem? (i := 2) rfl
theorem mX5_countParts_4 : Cond.fieldLink RX5 28 "GateMaze$View" "sizes" "[I" ∈ wsX5_countParts := List.mem_of_getElem? (i := 4) rfl
theorem mX5_countParts_5 : Cond.fieldLink RX5 31 "GateMaze$View" "codes" "[I" ∈ wsX5_countParts := List.mem_of_getElem? (i := 5) rfl
theorem mX5_countParts_1 : Cond.fieldLink RX5 96 "GateMaze$View" "parts" "I" ∈ wsX5_countParts := List.mem_of_getElem? (i := 1) rfl
theorem mX5_countParts_3 : Cond.fieldLink RX5 102 "GateMaze$View" "partCares" "I" ∈ wsX5_countParts := List.mem_of_getElem? (i := 3) rfl
theorem iX5_countParts_X5 : ∀ w ∈ u_ws RX5 TX5 12, w ∈ wsX5_countParts := fun w h => List.mem_cons_of_mem _ (List.mem_append_right _ h)
set_option maxHeartbeats 4000000 in
set_option maxRecDepth 100000 in
theorem c_X5_countParts (l : Launch) (D : va_G) (kI kJ kS : ClassId) (to : Nat) (ta : Nat → Nat) (t_inputs : Int32) (t_undecidedPairs : Int32) (t_parts : Int32) (t_sharedParts : Int32) (t_partCares : Int32) (t_zeros : (Nat → Int64)) (t_ones : (Nat → Int64)) (t_undecided : (Nat → Int64)) (t_answers : (Nat → Int64)) (t_primeCounts : (Nat → Int32)) (t_sizes : (Nat → Int32)) (t_codes : (Nat → Int32)) {r : Int32 × Int32 × Int32} (hrun : fX5_countParts t_sizes t_codes = some r) : cV l D (tyL kI kJ kS) true yX5_countParts wsX5_countParts (rmk 1 0 0 24) [.ref to] (wX5 kI kJ to ta t_inputs t_undecidedPairs t_parts t_sharedParts t_partCares t_zeros t_ones t_undecided t_answers t_primeCounts t_sizes t_codes) (wX5 kI kJ to ta t_inputs t_undecidedPairs r.1 r.2.1 r.2.2 t_zeros t_ones t_undecided t_answers t_primeCounts t_sizes t_codes) := by
  refine cV_of (cc := cX5_countParts) (maxL := 6) (by decide) rfl (Nat.le_of_ble_eq_true rfl) ?_
  intro p e s m av below meth c A Q ls hE hP hD hS hl hret
  have hE : ent_ p s m av meth c RX5 cX5_countParts 6 none wsX5_countParts (tyL kI kJ kS) D A true := hE
  obtain ⟨hx, hb, hml, hown, hts, hr, hlocks, hK, hA, hst⟩ := id hE
  have hl : lv_has ls 6 [(0, .ref to)] := hl
  obtain ⟨⟨⟨tW, hZ, hT⟩, hU1, hU2⟩, hnk⟩ := hst rfl
  have c_J122 : ∀ (x1 : Int32) (x2 : Int32) (t_parts : Int32) (t_sharedParts : Int32) (t_partCares : Int32) (k24 : Int32 → Int32 → Int32 → Int32 → Option (Int32 × Int32 × Int32)) (hk24 : (∀ (x2 : Int32) (t_parts : Int32) (t_sharedParts : Int32) (t_partCares : Int32), k24 x2 t_parts t_sharedParts t_partCares = some r → wAt p l e (rmk 1 0 0 24) s m av below meth c D A 6 0 0 Q 24 [] [(0, .ref to), (1, .int x1), (2, .int x2)] (wX5 kI kJ to ta t_inputs t_undecidedPairs t_parts t_sharedParts t_partCares t_zeros t_ones t_undecided t_answers t_primeCounts t_sizes t_codes))), fX5_countParts_J122 x1 x2 t_parts t_sharedParts t_partCares t_sizes t_codes k24 = some r → wAt p l e (rmk 1 0 0 24) s m av below meth c D A 6 0 0 Q 122 [] [(0, .ref to), (1, .int x1), (2, .int x2)] (wX5 kI kJ to ta t_inputs t_undecidedPairs t_parts t_sharedParts t_partCares t_zeros t_ones t_undecided t_answers t_primeCounts t_sizes t_codes) := by
    intro x1 x2 t_parts t_sharedParts t_partCares k24 hk24 hrun H locs ls hP hD hS hl
    unfold fX5_countParts_J122 at hrun
    refine lv_iinc (v := x2 + 1) (lv' := [(2, .int (x2 + 1)), (0, .ref to), (1, .int x1)]) hx hb dX5_countParts_122 hl (k := 2) rfl rfl (by decide) rfl (fun ls hl => ?_)
    refine lv_goto (tgt := 24) hx hb dX5_countParts_125 (by decide) ?_
    exact hk24 (x2 + 1) t_parts t_sharedParts t_partCares  hrun _ _ _ hP hD hS (lv_sub hl [1, 2, 0] rfl)
  have c_J118 : ∀ (x1 : Int32) (x2 : Int32) (s0 : Int32) (s1 : Int32) (t_parts : Int32) (t_partCares : Int32) (k24 : Int32 → Int32 → Int32 → Int32 → Option (Int32 × Int32 × Int32)) (hk24 : (∀ (x2 : Int32) (t_parts : Int32) (t_sharedParts : Int32) (t_partCares : Int32), k24 x2 t_parts t_sharedParts t_partCares = some r → wAt p l e (rmk 1 0 0 24) s m av below meth c D A 6 0 0 Q 24 [] [(0, .ref to), (1, .int x1), (2, .int x2)] (wX5 kI kJ to ta t_inputs t_undecidedPairs t_parts t_sharedParts t_partCares t_zeros t_ones t_undecided t_answers t_primeCounts t_sizes t_codes))) (t_sharedParts : Int32), fX5_countParts_J118 x1 x2 s0 s1 t_parts t_partCares t_sizes t_codes k24 = some r → wAt p l e (rmk 1 0 0 24) s m av below meth c D A 6 0 0 Q 118 [.int s0, .int s1, .ref to] [(0, .ref to), (1, .int x1), (2, .int x2)] (wX5 kI kJ to ta t_inputs t_undecidedPairs t_parts t_sharedParts t_partCares t_zeros t_ones t_undecided t_answers t_primeCounts t_sizes t_codes) := by
    intro x1 x2 s0 s1 t_parts t_partCares k24 hk24 t_sharedParts hrun H locs ls hP hD hS hl
    unfold fX5_countParts_J118 at hrun
    refine lv_iadd hx hb dX5_countParts_118 ?_
    refine va_put (D := D) (ci := 4) (v := .int (s1 + s0)) (ty := .int) (C := RX5) (T := TX5) (N := 12) hx hb hts iX5_countParts_X5 tyX5 tyX5_ok nmX5 hown hK hP hD hS 0 rfl rfl 3 (by decide) (hts _ mX5_countParts_2) (fun _ h9 => h9) rfl (by decide +kernel) rfl rfl (Nat.le_of_ble_eq_true rfl) dX5_countParts_119 (fun H locs hP hD hS => ?_)
    have hP : va_P D vwCl (wX5 kI kJ to ta t_inputs t_undecidedPairs t_parts (s1 + s0) t_partCares t_zeros t_ones t_undecided t_answers t_primeCounts t_sizes t_codes) H := hP
    have hD : va_D A (wX5 kI kJ to ta t_inputs t_undecidedPairs t_parts (s1 + s0) t_partCares t_zeros t_ones t_undecided t_answers t_primeCounts t_sizes t_codes) := hD
    exact c_J122 x1 x2 t_parts (s1 + s0) t_partCares k24 hk24  hrun _ _ _ hP hD hS (lv_sub hl [0, 1, 2] rfl)
  have c_J128 : ∀ (x1 : Int32) (t_parts : Int32) (t_sharedParts : Int32) (t_partCares : Int32) (k17 : Int32 → Int32 → Int32 → Int32 → Option (Int32 × Int32 × Int32)) (hk17 : (∀ (x1 : Int32) (t_parts : Int32) (t_sharedParts : Int32) (t_partCares : Int32), k17 x1 t_parts t_sharedParts t_partCares = some r → wAt p l e (rmk 1 0 0 24) s m av below meth c D A 6 0 0 Q 17 [] [(0, .ref to), (1, .int x1)] (wX5 kI kJ to ta t_inputs t_undecidedPairs t_parts t_sharedParts t_partCares t_zeros t_ones t_undecided t_answers t_primeCounts t_sizes t_codes))), fX5_countParts_J128 x1 t_parts t_sharedParts t_partCares t_sizes t_codes k17 = some r → wAt p l e (rmk 1 0 0 24) s m av below meth c D A 6 0 0 Q 128 [] [(0, .ref to), (1, .int x1)] (wX5 kI kJ to ta t_inputs t_undecidedPairs t_parts t_sharedParts t_partCares t_zeros t_ones t_undecided t_answers t_primeCounts t_sizes t_codes) := by
    intro x1 t_parts t_sharedParts t_partCares k17 hk17 hrun H locs ls hP hD hS hl
    unfold fX5_countParts_J128 at hrun
    refine lv_iinc (v := x1 + 1) (lv' := [(1, .int (x1 + 1)), (0, .ref to)]) hx hb dX5_countParts_128 hl (k := 1) rfl rfl (by decide) rfl (fun ls hl => ?_)
    refine lv_goto (tgt := 17) hx hb dX5_countParts_131 (by decide) ?_
    exact hk17 (x1 + 1) t_parts t_sharedParts t_partCares  hrun _ _ _ hP hD hS (lv_sub hl [1, 0] rfl)
  have c_L24 : ∀ (x1 : Int32) (k17 : Int32 → Int32 → Int32 → Int32 → Option (Int32 × Int32 × Int32)) (hk17 : (∀ (x1 : Int32) (t_parts : Int32) (t_sharedParts : Int32) (t_partCares : Int32), k17 x1 t_parts t_sharedParts t_partCares = some r → wAt p l e (rmk 1 0 0 24) s m av below meth c D A 6 0 0 Q 17 [] [(0, .ref to), (1, .int x1)] (wX5 kI kJ to ta t_inputs t_undecidedPairs t_parts t_sharedParts t_partCares t_zeros t_ones t_undecided t_answers t_primeCounts t_sizes t_codes))) (n : Nat) (x2 : Int32) (t_parts : Int32) (t_sharedParts : Int32) (t_partCares : Int32), fX5_countParts_L24 x1 t_sizes t_codes k17 n x2 t_parts t_sharedParts t_partCares = some r → wAt p l e (rmk 1 0 0 24) s m av below meth c D A 6 0 0 Q 24 [] [(0, .ref to), (1, .int x1), (2, .int x2)] (wX5 kI kJ to ta t_inputs t_undecidedPairs t_parts t_sharedParts t_partCares t_zeros t_ones t_undecided t_answers t_primeCounts t_sizes t_codes) := by
    intro x1 k17 hk17 n
    induction n with
    | zero =>
      intro x2 t_parts t_sharedParts t_partCares hrun
      rw [fX5_countParts_L24] at hrun
      cases hrun
    | succ n ih =>
      intro x2 t_parts t_sharedParts t_partCares hrun H locs ls hP hD hS hl
      rw [fX5_countParts_L24] at hrun
      refine lv_iload_n hx hb dX5_countParts_24 rfl (lv_at hl 2 rfl) ?_
      refine lv_aload_n hx hb dX5_countParts_25 rfl (lv_at hl 0 rfl) ?_
      refine va_get (D := D) (ci := 4) (v := .ref (ta 5)) (C := RX5) (T := TX5) (N := 12) hx hb hts iX5_countParts_X5 hown hK hP 0 rfl rfl 10 (by decide) (hts _ mX5_countParts_4) (fun _ h9 => h9) rfl dX5_countParts_26 ?_
      refine lv_iload_n hx hb dX5_countParts_29 rfl (lv_at hl 1 rfl) ?_
      obtain ⟨hin, hrun⟩ := gd_some hrun
      refine va_iald hx hb hK hP 6 0 rfl rfl hin dX5_countParts_30 ?_
      refine lv_icmp_ge (tgt := 128) hx hb dX5_countParts_31 (by decide) (fun hc => ?_) (fun hc => ?_)
      · have hrun := it_t hc hrun
        exact c_J128 x1 t_parts t_sharedParts t_partCares k17 hk17  hrun _ _ _ hP hD hS (lv_sub hl [0, 1] rfl)
      · have hrun := it_f hc hrun
        refine lv_iload_n hx hb dX5_countParts_34 rfl (lv_at hl 2 rfl) ?_
        refine lv_bipush (v := 64) hx hb dX5_countParts_35 (by decide) ?_
        refine lv_icmp_ge (tgt := 128) hx hb dX5_countParts_37 (by decide) (fun hc => ?_) (fun hc => ?_)
        · have hrun := it_t hc hrun
          exact c_J128 x1 t_parts t_sharedParts t_partCares k17 hk17  hrun _ _ _ hP hD hS (lv_sub hl [0, 1] rfl)
        · have hrun := it_f hc hrun
          refine lv_aload_n hx hb dX5_countParts_40 rfl (lv_at hl 0 rfl) ?_
          refine va_get (D := D) (ci := 4) (v := .ref (ta 6)) (C := RX5) (T := TX5) (N := 12) hx hb hts iX5_countParts_X5 hown hK hP 0 rfl rfl 11 (by decide) (hts _ mX5_countParts_5) (fun _ h9 => h9) rfl dX5_countParts_41 ?_
          refine lv_iload_n hx hb dX5_countParts_44 rfl (lv_at hl 1 rfl) ?_
          refine lv_bipush (v := 64) hx hb dX5_countParts_45 (by decide) ?_
          refine lv_imul hx hb dX5_countParts_47 ?_
          refine lv_iload_n hx hb dX5_countParts_48 rfl (lv_at hl 2 rfl) ?_
          refine lv_iadd hx hb dX5_countParts_49 ?_
          obtain ⟨hin, hrun⟩ := gd_some hrun
          refine va_iald hx hb hK hP 7 0 rfl rfl hin dX5_countParts_50 ?_
          refine lv_istore_n (lv' := [(3, .int (t_codes ((x1 * 64) + x2).toNatClampNeg)), (0, .ref to), (1, .int x1), (2, .int x2)]) hx hb dX5_countParts_51 rfl hl (by decide) rfl (fun ls hl => ?_)
          refine lv_aload_n hx hb dX5_countParts_52 rfl (lv_at hl 1 rfl) ?_
          refine lv_iload_n hx hb dX5_countParts_53 rfl (lv_at hl 0 rfl) ?_
          obtain ⟨q_1, hq_1, hrun⟩ := bd_some hrun
          refine cI_callV (As := [.int (t_codes ((x1 * 64) + x2).toNatClampNeg)]) (rest := []) (wr := []) (wN := (wX5 kI kJ to ta t_inputs t_undecidedPairs t_parts t_sharedParts t_partCares t_zeros t_ones t_undecided t_answers t_primeCounts t_sizes t_codes)) (ci := 4) (q0 := 0) hE (c_X5_holdersOf l D kI kJ kS to ta (t_codes ((x1 * 64) + x2).toNatClampNeg) t_inputs t_undecidedPairs t_parts t_sharedParts t_partCares t_zeros t_ones t_undecided t_answers t_primeCounts t_sizes t_codes hq_1) (cwV 1 hts gX5_countParts_X5_holdersOf rfl rfl rfl (by decide +kernel) ⟨Nat.le_of_ble_eq_true rfl, Nat.le_of_ble_eq_true rfl⟩) hP hD hS [0, 1, 2, 3, 4, 5, 6, 7] [] [0, 1, 2, 3, 4, 5, 6, 7] rfl rfl rfl rfl (by decide) rfl rfl rfl rfl rfl hl.1 rfl (Nat.le_of_ble_eq_true rfl) dX5_countParts_54 ⟨Nat.le_of_ble_eq_true rfl, Nat.le_of_ble_eq_true rfl⟩ (fun H locs hP hD hS => ?_)
          refine lv_istore (lv' := [(4, .int q_1), (3, .int (t_codes ((x1 * 64) + x2).toNatClampNeg)), (0, .ref to), (1, .int x1), (2, .int x2)]) hx hb dX5_countParts_57 hl (by decide) rfl (fun ls hl => ?_)
          refine lv_iload hx hb dX5_countParts_59 (lv_at hl 0 rfl) ?_
          refine lv_iconst (v := 1) hx hb dX5_countParts_61 (by decide) ?_
          refine lv_iload_n hx hb dX5_countParts_62 rfl (lv_at hl 3 rfl) ?_
          refine lv_ishl hx hb dX5_countParts_63 ?_
          refine lv_iconst (v := 1) hx hb dX5_countParts_64 (by decide) ?_
          refine lv_isub hx hb dX5_countParts_65 ?_
          refine lv_iand hx hb dX5_countParts_66 ?_
          refine lv_istore (lv' := [(5, .int (q_1 &&& (((1 : Int32) <<< (x1 &&& 31)) - 1))), (4, .int q_1), (3, .int (t_codes ((x1 * 64) + x2).toNatClampNeg)), (0, .ref to), (1, .int x1), (2, .int x2)]) hx hb dX5_countParts_67 hl (by decide) rfl (fun ls hl => ?_)
          refine lv_iload hx hb dX5_countParts_69 (lv_at hl 0 rfl) ?_
          refine lv_if_ne (tgt := 122) hx hb dX5_countParts_71 (by decide) (fun hc => ?_) (fun hc => ?_)
          · have hrun := it_f hc hrun
            exact c_J122 x1 x2 t_parts t_sharedParts t_partCares (fX5_countParts_L24 x1 t_sizes t_codes k17 n) ih  hrun _ _ _ hP hD hS (lv_sub hl [3, 4, 5] rfl)
          · have hrun := it_t hc hrun
            refine lv_aload_n hx hb dX5_countParts_74 rfl (lv_at hl 3 rfl) ?_
            refine lv_dup hx hb dX5_countParts_75 rfl ?_
            refine va_get (D := D) (ci := 4) (v := .int t_parts) (C := RX5) (T := TX5) (N := 12) hx hb hts iX5_countParts_X5 hown hK hP 0 rfl rfl 2 (by decide) (hts _ mX5_countParts_1) (fun _ h9 => h9) rfl dX5_countParts_76 ?_
            refine lv_iconst (v := 1) hx hb dX5_countParts_79 (by decide) ?_
            refine lv_iadd hx hb dX5_countParts_80 ?_
            refine va_put (D := D) (ci := 4) (v := .int (t_parts + 1)) (ty := .int) (C := RX5) (T := TX5) (N := 12) hx hb hts iX5_countParts_X5 tyX5 tyX5_ok nmX5 hown hK hP hD hS 0 rfl rfl 2 (by decide) (hts _ mX5_countParts_1) (fun _ h9 => h9) rfl (by decide +kernel) rfl rfl (Nat.le_of_ble_eq_true rfl) dX5_countParts_81 (fun H locs hP hD hS => ?_)
            have hP : va_P D vwCl (wX5 kI kJ to ta t_inputs t_undecidedPairs (t_parts + 1) t_sharedParts t_partCares t_zeros t_ones t_undecided t_answers t_primeCounts t_sizes t_codes) H := hP
            have hD : va_D A (wX5 kI kJ to ta t_inputs t_undecidedPairs (t_parts + 1) t_sharedParts t_partCares t_zeros t_ones t_undecided t_answers t_primeCounts t_sizes t_codes) := hD
            refine lv_aload_n hx hb dX5_countParts_84 rfl (lv_at hl 3 rfl) ?_
            refine lv_dup hx hb dX5_countParts_85 rfl ?_
            refine va_get (D := D) (ci := 4) (v := .int t_partCares) (C := RX5) (T := TX5) (N := 12) hx hb hts iX5_countParts_X5 hown hK hP 0 rfl rfl 4 (by decide) (hts _ mX5_countParts_3) (fun _ h9 => h9) rfl dX5_countParts_86 ?_
            refine lv_iload_n hx hb dX5_countParts_89 rfl (lv_at hl 2 rfl) ?_
            refine lv_bipush (v := 64) hx hb dX5_countParts_90 (by decide) ?_
            refine lv_idiv hx hb dX5_countParts_92 (by decide) ?_
            obtain ⟨q_2, hq_2, hrun⟩ := bd_some hrun
            refine cI_callS (As := [.int ((t_codes ((x1 * 64) + x2).toNatClampNeg) / 64)]) (rest := [.int t_partCares, .ref to]) (wr := (wX5 kI kJ to ta t_inputs t_undecidedPairs (t_parts + 1) t_sharedParts t_partCares t_zeros t_ones t_undecided t_answers t_primeCounts t_sizes t_codes)) (wN := (wX5 kI kJ to ta t_inputs t_undecidedPairs (t_parts + 1) t_sharedParts t_partCares t_zeros t_ones t_undecided t_answers t_primeCounts t_sizes t_codes)) hE (c_J6_bitCount_0f7a4 l D kI kJ kS ((t_codes ((x1 * 64) + x2).toNatClampNeg) / 64)  hq_2) (va_cwS 1 hts gX5_countParts_J6_bitCount_0f7a4 rfl rfl rfl (by decide +kernel) ⟨Nat.le_of_ble_eq_true rfl, Nat.le_of_ble_eq_true rfl⟩) hP hD hS [] [0, 1, 2, 3, 4, 5, 6, 7] [0, 1, 2, 3, 4, 5, 6, 7] rfl rfl rfl rfl (by decide) rfl rfl rfl hl.1 rfl (Nat.le_of_ble_eq_true rfl) dX5_countParts_93 ⟨Nat.le_of_ble_eq_true rfl, Nat.le_of_ble_eq_true rfl⟩ (fun H locs hP hD hS => ?_)
            refine lv_iadd hx hb dX5_countParts_96 ?_
            refine va_put (D := D) (ci := 4) (v := .int (t_partCares + q_2)) (ty := .int) (C := RX5) (T := TX5) (N := 12) hx hb hts iX5_countParts_X5 tyX5 tyX5_ok nmX5 hown hK hP hD hS 0 rfl rfl 4 (by decide) (hts _ mX5_countParts_3) (fun _ h9 => h9) rfl (by decide +kernel) rfl rfl (Nat.le_of_ble_eq_true rfl) dX5_countParts_97 (fun H locs hP hD hS => ?_)
            have hP : va_P D vwCl (wX5 kI kJ to ta t_inputs t_undecidedPairs (t_parts + 1) t_sharedParts (t_partCares + q_2) t_zeros t_ones t_undecided t_answers t_primeCounts t_sizes t_codes) H := hP
            have hD : va_D A (wX5 kI kJ to ta t_inputs t_undecidedPairs (t_parts + 1) t_sharedParts (t_partCares + q_2) t_zeros t_ones t_undecided t_answers t_primeCounts t_sizes t_codes) := hD
            refine lv_aload_n hx hb dX5_countParts_100 rfl (lv_at hl 3 rfl) ?_
            refine lv_dup hx hb dX5_countParts_101 rfl ?_
            refine va_get (D := D) (ci := 4) (v := .int t_sharedParts) (C := RX5) (T := TX5) (N := 12) hx hb hts iX5_countParts_X5 hown hK hP 0 rfl rfl 3 (by decide) (hts _ mX5_countParts_2) (fun _ h9 => h9) rfl dX5_countParts_102 ?_
            refine lv_iload hx hb dX5_countParts_105 (lv_at hl 1 rfl) ?_
            refine lv_iconst (v := 1) hx hb dX5_countParts_107 (by decide) ?_
            refine lv_iload_n hx hb dX5_countParts_108 rfl (lv_at hl 4 rfl) ?_
            refine lv_ishl hx hb dX5_countParts_109 ?_
            refine lv_icmp_eq (tgt := 117) hx hb dX5_countParts_110 (by decide) (fun hc => ?_) (fun hc => ?_)
            · have hrun := it_t hc hrun
              refine lv_iconst (v := 0) hx hb dX5_countParts_117 (by decide) ?_
              exact c_J118 x1 x2 0 t_sharedParts (t_parts + 1) (t_partCares + q_2) (fX5_countParts_L24 x1 t_sizes t_codes k17 n) ih t_sharedParts hrun _ _ _ hP hD hS (lv_sub hl [3, 4, 5] rfl)
            · have hrun := it_f hc hrun
              refine lv_iconst (v := 1) hx hb dX5_countParts_113 (by decide) ?_
              refine lv_goto (tgt := 118) hx hb dX5_countParts_114 (by decide) ?_
              exact c_J118 x1 x2 1 t_sharedParts (t_parts + 1) (t_partCares + q_2) (fX5_countParts_L24 x1 t_sizes t_codes k17 n) ih t_sharedParts hrun _ _ _ hP hD hS (lv_sub hl [3, 4, 5] rfl)
  have c_L17 : ∀  (n : Nat) (x1 : Int32) (t_parts : Int32) (t_sharedParts : Int32) (t_partCares : Int32), fX5_countParts_L17 t_sizes t_codes n x1 t_parts t_sharedParts t_partCares = some r → wAt p l e (rmk 1 0 0 24) s m av below meth c D A 6 0 0 Q 17 [] [(0, .ref to), (1, .int x1)] (wX5 kI kJ to ta t_inputs t_undecidedPairs t_parts t_sharedParts t_partCares t_zeros t_ones t_undecided t_answers t_primeCounts t_sizes t_codes) := by
    intro  n
    induction n with
    | zero =>
      intro x1 t_parts t_sharedParts t_partCares hrun
      rw [fX5_countParts_L17] at hrun
      cases hrun
    | succ n ih =>
      intro x1 t_parts t_sharedParts t_partCares hrun H locs ls hP hD hS hl
      rw [fX5_countParts_L17] at hrun
      refine lv_iload_n hx hb dX5_countParts_17 rfl (lv_at hl 1 rfl) ?_
      refine lv_iconst (v := 4) hx hb dX5_countParts_18 (by decide) ?_
      refine lv_icmp_ge (tgt := 134) hx hb dX5_countParts_19 (by decide) (fun hc => ?_) (fun hc => ?_)
      · have hrun := it_t hc hrun
        obtain rfl := Option.some.inj hrun
        exact hret _ _ _ _ dX5_countParts_134 hP hD hS
      · have hrun := it_f hc hrun
        refine lv_iconst (v := 0) hx hb dX5_countParts_22 (by decide) ?_
        refine lv_istore_n (lv' := [(2, .int 0), (0, .ref to), (1, .int x1)]) hx hb dX5_countParts_23 rfl hl (by decide) rfl (fun ls hl => ?_)
        exact c_L24 x1 (fX5_countParts_L17 t_sizes t_codes n) ih 5000 0 t_parts t_sharedParts t_partCares  hrun _ _ _ hP hD hS (lv_sub hl [1, 2, 0] rfl)
  unfold fX5_countParts at hrun
  refine lv_aload_n hx hb dX5_countParts_0 rfl (lv_at hl 0 rfl) ?_
  refine lv_iconst (v := 0) hx hb dX5_countParts_1 (by decide) ?_
  refine va_put (D := D) (ci := 4) (v := .int 0) (ty := .int) (C := RX5) (T := TX5) (N := 12) hx hb hts iX5_countParts_X5 tyX5 tyX5_ok nmX5 hown hK hP hD hS 0 rfl rfl 2 (by decide) (hts _ mX5_countParts_1) (fun _ h9 => h9) rfl (by decide +kernel) rfl rfl (Nat.le_of_ble_eq_true rfl) dX5_countParts_2 (fun H locs hP hD hS => ?_)
  have hP : va_P D vwCl (wX5 kI kJ to ta t_inputs t_undecidedPairs 0 t_sharedParts t_partCares t_zeros t_ones t_undecided t_answers t_primeCounts t_sizes t_codes) H := hP
  have hD : va_D A (wX5 kI kJ to ta t_inputs t_undecidedPairs 0 t_sharedParts t_partCares t_zeros t_ones t_undecided t_answers t_primeCounts t_sizes t_codes) := hD
  refine lv_aload_n hx hb dX5_countParts_5 rfl (lv_at hl 0 rfl) ?_
  refine lv_iconst (v := 0) hx hb dX5_countParts_6 (by decide) ?_
  refine va_put (D := D) (ci := 4) (v := .int 0) (ty := .int) (C := RX5) (T := TX5) (N := 12) hx hb hts iX5_countParts_X5 tyX5 tyX5_ok nmX5 hown hK hP hD hS 0 rfl rfl 3 (by decide) (hts _ mX5_countParts_2) (fun _ h9 => h9) rfl (by decide +kernel) rfl rfl (Nat.le_of_ble_eq_true rfl) dX5_countParts_7 (fun H locs hP hD hS => ?_)
  have hP : va_P D vwCl (wX5 kI kJ to ta t_inputs t_undecidedPairs 0 0 t_partCares t_zeros t_ones t_undecided t_answers t_primeCounts t_sizes t_codes) H := hP
  have hD : va_D A (wX5 kI kJ to ta t_inputs t_undecidedPairs 0 0 t_partCares t_zeros t_ones t_undecided t_answers t_primeCounts t_sizes t_codes) := hD
  refine lv_aload_n hx hb dX5_countParts_10 rfl (lv_at hl 0 rfl) ?_
  refine lv_iconst (v := 0) hx hb dX5_countParts_11 (by decide) ?_
  refine va_put (D := D) (ci := 4) (v := .int 0) (ty := .int) (C := RX5) (T := TX5) (N := 12) hx hb hts iX5_countParts_X5 tyX5 tyX5_ok nmX5 hown hK hP hD hS 0 rfl rfl 4 (by decide) (hts _ mX5_countParts_3) (fun _ h9 => h9) rfl (by decide +kernel) rfl rfl (Nat.le_of_ble_eq_true rfl) dX5_countParts_12 (fun H locs hP hD hS => ?_)
  have hP : va_P D vwCl (wX5 kI kJ to ta t_inputs t_undecidedPairs 0 0 0 t_zeros t_ones t_undecided t_answers t_primeCounts t_sizes t_codes) H := hP
  have hD : va_D A (wX5 kI kJ to ta t_inputs t_undecidedPairs 0 0 0 t_zeros t_ones t_undecided t_answers t_primeCounts t_sizes t_codes) := hD
  refine lv_iconst (v := 0) hx hb dX5_countParts_15 (by decide) ?_
  refine lv_istore_n (lv' := [(1, .int 0), (0, .ref to)]) hx hb dX5_countParts_16 rfl hl (by decide) rfl (fun ls hl => ?_)
  exact c_L17  5000 0 0 0 0  hrun _ _ _ hP hD hS (lv_sub hl [1, 0] rfl)
theorem mX5_look_3 : Cond.fieldLink RX5 9 "GateMaze$View" "zeros" "[J" ∈ wsX5_look := List.mem_of_getElem? (i := 3) rfl
theorem mX5_look_4 : Cond.constantLong RX5 61 (-1) ∈ wsX5_look := List.mem_of_getElem? (i := 4) rfl
theorem mX5_look_5 : Cond.fieldLink RX5 15 "GateMaze$View" "ones" "[J" ∈ wsX5_look := List.mem_of_getElem? (i := 5) rfl
theorem mX5_look_6 : Cond.fieldLink RX5 18 "GateMaze$View" "undecided" "[J" ∈ wsX5_look := List.mem_of_getElem? (i := 6) rfl
theorem mX5_look_2 : Cond.fieldLink RX5 41 "GateMaze$View" "undecidedPairs" "I" ∈ wsX5_look := List.mem_of_getElem? (i := 2) rfl
theorem mX5_look_1 : Cond.fieldLink RX5 40 "GateMaze$View" "inputs" "I" ∈ wsX5_look := List.mem_of_getElem? (i := 1) rfl
theorem mX5_look_7 : Cond.fieldLink RX5 24 "GateMaze$View" "primeCounts" "[I" ∈ wsX5_look := List.mem_of_getElem? (i := 7) rfl
theorem iX5_look_X1 : ∀ w ∈ u_ws RX1 TX1 4, w ∈ wsX5_look := fun w h => List.mem_cons_of_mem _ (List.mem_append_right _ h)
theorem iX5_look_X3 : ∀ w ∈ u_ws RX3 TX3 8, w ∈ wsX5_look := fun w h => List.mem_cons_of_mem _ (List.mem_append_left _ (List.mem_append_left _ (List.mem_append_right _ h)))
theorem iX5_look_X5 : ∀ w ∈ u_ws RX5 TX5 12, w ∈ wsX5_look := fun w h => List.mem_cons_of_mem _ (List.mem_append_left _ (List.mem_append_right _ h))
set_option maxHeartbeats 4000000 in
set_option maxRecDepth 100000 in
theorem c_X5_look (l : Launch) (D : va_G) (kI kJ kS : ClassId) (to : Nat) (ta : Nat → Nat) (ao : Nat) (aa : Nat → Nat) (bo : Nat) (ba : Nat → Nat) (x2 : Int32) (t_inputs : Int32) (t_undecidedPairs : Int32) (t_parts : Int32) (t_sharedParts : Int32) (t_partCares : Int32) (t_zeros : (Nat → Int64)) (t_ones : (Nat → Int64)) (t_undecided : (Nat → Int64)) (t_answers : (Nat → Int64)) (t_primeCounts : (Nat → Int32)) (t_sizes : (Nat → Int32)) (t_codes : (Nat → Int32)) (a_inputs : Int32) (a_remembered : Int32) (a_asks : Int32) (a_hours : Int32) (a_zeros : (Nat → Int64)) (a_ones : (Nat → Int64)) (a_alarms : (Nat → Int32)) (a_faults : (Nat → Int32)) (b_bad : (Nat → Int64)) (b_codes : (Nat → Int32)) (b_rows : (Nat → Int64)) (b_size : Int32) {r : Int32 × Int32 × Int32 × Int32 × Int32 × (Nat → Int64) × (Nat → Int64) × (Nat → Int64) × (Nat → Int64) × (Nat → Int32) × (Nat → Int32) × (Nat → Int32) × (Nat → Int64) × (Nat → Int32) × (Nat → Int64) × Int32} (hrun : fX5_look t_zeros t_ones t_undecided t_answers t_primeCounts t_sizes t_codes a_inputs a_zeros a_ones b_bad b_codes b_rows b_size x2 = some r) : cV l D (tyL kI kJ kS) true yX5_look wsX5_look (rmk 4 0 0 101) [.ref to, .ref ao, .int x2, .ref bo] (wX5 kI kJ to ta t_inputs t_undecidedPairs t_parts t_sharedParts t_partCares t_zeros t_ones t_undecided t_answers t_primeCounts t_sizes t_codes ++ (wX3 kI kJ ao aa a_inputs a_remembered a_asks a_hours a_zeros a_ones a_alarms a_faults ++ (wX1 kI kJ bo ba b_bad b_codes b_rows b_size))) (wX5 kI kJ to ta r.1 r.2.1 r.2.2.1 r.2.2.2.1 r.2.2.2.2.1 r.2.2.2.2.2.1 r.2.2.2.2.2.2.1 r.2.2.2.2.2.2.2.1 r.2.2.2.2.2.2.2.2.1 r.2.2.2.2.2.2.2.2.2.1 r.2.2.2.2.2.2.2.2.2.2.1 r.2.2.2.2.2.2.2.2.2.2.2.1 ++ (wX3 kI kJ ao aa a_inputs a_remembered a_asks a_hours a_zeros a_ones a_alarms a_faults ++ (wX1 kI kJ bo ba r.2.2.2.2.2.2.2.2.2.2.2.2.1 r.2.2.2.2.2.2.2.2.2.2.2.2.2.1 r.2.2.2.2.2.2.2.2.2.2.2.2.2.2.1 r.2.2.2.2.2.2.2.2.2.2.2.2.2.2.2))) := by
  refine cV_of (cc := cX5_look) (maxL := 10) (by decide) rfl (Nat.le_of_ble_eq_true rfl) ?_
  intro p e s m av below meth c A Q ls hE hP hD hS hl hret
  have hE : ent_ p s m av meth c RX5 cX5_look 10 none wsX5_look (tyL kI kJ kS) D A true := hE
  obtain ⟨hx, hb, hml, hown, hts, hr, hlocks, hK, hA, hst⟩ := id hE
  have hl : lv_has ls 10 [(0, .ref to), (1, .ref ao), (2, .int x2), (3, .ref bo)] := hl
  obtain ⟨⟨⟨tW, hZ, hT⟩, hU1, hU2⟩, hnk⟩ := hst rfl
  have c_J164 : ∀ (t_inputs : Int32) (t_undecidedPairs : Int32) (t_zeros : (Nat → Int64)) (t_ones : (Nat → Int64)) (t_undecided : (Nat → Int64)) (t_answers : (Nat → Int64)) (t_primeCounts : (Nat → Int32)) (t_sizes : (Nat → Int32)) (t_codes : (Nat → Int32)) (b_bad : (Nat → Int64)) (b_codes : (Nat → Int32)) (b_rows : (Nat → Int64)) (b_size : Int32) (t_parts : Int32) (t_sharedParts : Int32) (t_partCares : Int32), fX5_look_J164 t_inputs t_undecidedPairs t_zeros t_ones t_undecided t_answers t_primeCounts t_sizes t_codes b_bad b_codes b_rows b_size = some r → wAt p l e (rmk 4 0 0 101) s m av below meth c D A 10 0 0 Q 164 [] [(0, .ref to)] (wX5 kI kJ to ta t_inputs t_undecidedPairs t_parts t_sharedParts t_partCares t_zeros t_ones t_undecided t_answers t_primeCounts t_sizes t_codes ++ (wX3 kI kJ ao aa a_inputs a_remembered a_asks a_hours a_zeros a_ones a_alarms a_faults ++ (wX1 kI kJ bo ba b_bad b_codes b_rows b_size))) := by
    intro t_inputs t_undecidedPairs t_zeros t_ones t_undecided t_answers t_primeCounts t_sizes t_codes b_bad b_codes b_rows b_size t_parts t_sharedParts t_partCares hrun H locs ls hP hD hS hl
    unfold fX5_look_J164 at hrun
    refine lv_aload_n hx hb dX5_look_164 rfl (lv_at hl 0 rfl) ?_
    obtain ⟨q_1, hq_1, hrun⟩ := bd_some hrun
    refine cV_callV (As := []) (rest := []) (wr := (wX3 kI kJ ao aa a_inputs a_remembered a_asks a_hours a_zeros a_ones a_alarms a_faults ++ (wX1 kI kJ bo ba b_bad b_codes b_rows b_size))) (wN := (wX5 kI kJ to ta t_inputs t_undecidedPairs q_1.1 q_1.2.1 q_1.2.2 t_zeros t_ones t_undecided t_answers t_primeCounts t_sizes t_codes ++ (wX3 kI kJ ao aa a_inputs a_remembered a_asks a_hours a_zeros a_ones a_alarms a_faults ++ (wX1 kI kJ bo ba b_bad b_codes b_rows b_size)))) (ci := 4) (q0 := 0) hE (c_X5_countParts l D kI kJ kS to ta  t_inputs t_undecidedPairs t_parts t_sharedParts t_partCares t_zeros t_ones t_undecided t_answers t_primeCounts t_sizes t_codes hq_1) (cwV 0 hts gX5_look_X5_countParts rfl rfl rfl (by decide +kernel) ⟨Nat.le_of_ble_eq_true rfl, Nat.le_of_ble_eq_true rfl⟩) hP hD hS [0, 1, 2, 3, 4, 5, 6, 7] [8, 9, 10, 11, 12, 13, 14, 15, 16] [9, 10, 11, 12, 13, 14, 15, 16, 0, 1, 2, 3, 4, 5, 6, 7, 8] rfl rfl rfl rfl (by decide) rfl rfl rfl rfl rfl hl.1 rfl (Nat.le_of_ble_eq_true rfl) dX5_look_165 ⟨Nat.le_of_ble_eq_true rfl, Nat.le_of_ble_eq_true rfl⟩ (fun H locs hP hD hS => ?_)
    obtain rfl := Option.some.inj hrun
    exact hret _ _ _ _ dX5_look_168 hP hD hS
  have c_L29 : ∀ (x2 : Int32) (x4 : Int32) (t_inputs : Int32) (n : Nat) (x5 : Int32) (t_undecidedPairs : Int32) (t_zeros : (Nat → Int64)) (t_ones : (Nat → Int64)) (t_undecided : (Nat → Int64)) (t_answers : (Nat → Int64)) (t_primeCounts : (Nat → Int32)) (t_sizes : (Nat → Int32)) (t_codes : (Nat → Int32)) (b_bad : (Nat → Int64)) (b_codes : (Nat → Int32)) (b_rows : (Nat → Int64)) (b_size : Int32) (t_parts : Int32) (t_sharedParts : Int32) (t_partCares : Int32), fX5_look_L29 x2 x4 t_inputs a_zeros a_ones n x5 t_undecidedPairs t_zeros t_ones t_undecided t_answers t_primeCounts t_sizes t_codes b_bad b_codes b_rows b_size = some r → wAt p l e (rmk 4 0 0 101) s m av below meth c D A 10 0 0 Q 29 [] [(0, .ref to), (1, .ref ao), (2, .int x2), (3, .ref bo), (4, .int x4), (5, .int x5)] (wX5 kI kJ to ta t_inputs t_undecidedPairs t_parts t_sharedParts t_partCares t_zeros t_ones t_undecided t_answers t_primeCounts t_sizes t_codes ++ (wX3 kI kJ ao aa a_inputs a_remembered a_asks a_hours a_zeros a_ones a_alarms a_faults ++ (wX1 kI kJ bo ba b_bad b_codes b_rows b_size))) := by
    intro x2 x4 t_inputs n
    induction n with
    | zero =>
      intro x5 t_undecidedPairs t_zeros t_ones t_undecided t_answers t_primeCounts t_sizes t_codes b_bad b_codes b_rows b_size t_parts t_sharedParts t_partCares hrun
      rw [fX5_look_L29] at hrun
      cases hrun
    | succ n ih =>
      intro x5 t_undecidedPairs t_zeros t_ones t_undecided t_answers t_primeCounts t_sizes t_codes b_bad b_codes b_rows b_size t_parts t_sharedParts t_partCares hrun H locs ls hP hD hS hl
      rw [fX5_look_L29] at hrun
      refine lv_iload hx hb dX5_look_29 (lv_at hl 5 rfl) ?_
      refine lv_iconst (v := 4) hx hb dX5_look_31 (by decide) ?_
      refine lv_icmp_ge (tgt := 164) hx hb dX5_look_32 (by decide) (fun hc => ?_) (fun hc => ?_)
      · have hrun := it_t hc hrun
        exact c_J164 t_inputs t_undecidedPairs t_zeros t_ones t_undecided t_answers t_primeCounts t_sizes t_codes b_bad b_codes b_rows b_size t_parts t_sharedParts t_partCares hrun _ _ _ hP hD hS (lv_sub hl [0] rfl)
      · have hrun := it_f hc hrun
        refine lv_aload_n hx hb dX5_look_35 rfl (lv_at hl 1 rfl) ?_
        refine lv_iload hx hb dX5_look_36 (lv_at hl 5 rfl) ?_
        obtain ⟨q_2, hq_2, hrun⟩ := bd_some hrun
        refine cL_callV (As := [.int x5]) (rest := []) (wr := (wX5 kI kJ to ta t_inputs t_undecidedPairs t_parts t_sharedParts t_partCares t_zeros t_ones t_undecided t_answers t_primeCounts t_sizes t_codes ++ (wX1 kI kJ bo ba b_bad b_codes b_rows b_size))) (wN := (wX5 kI kJ to ta t_inputs t_undecidedPairs t_parts t_sharedParts t_partCares t_zeros t_ones t_undecided t_answers t_primeCounts t_sizes t_codes ++ (wX3 kI kJ ao aa a_inputs a_remembered a_asks a_hours a_zeros a_ones a_alarms a_faults ++ (wX1 kI kJ bo ba b_bad b_codes b_rows b_size)))) (ci := 2) (q0 := 8) hE (c_X3_zerosOf l D kI kJ kS ao aa x5 a_inputs a_remembered a_asks a_hours a_zeros a_ones a_alarms a_faults hq_2) (cwV 1 hts gX5_look_X3_zerosOf rfl rfl rfl (by decide +kernel) ⟨Nat.le_of_ble_eq_true rfl, Nat.le_of_ble_eq_true rfl⟩) hP hD hS [8, 9, 10, 11, 12] [0, 1, 2, 3, 4, 5, 6, 7, 13, 14, 15, 16] [0, 1, 2, 3, 4, 5, 6, 7, 12, 13, 14, 15, 16, 8, 9, 10, 11] rfl rfl rfl rfl (by decide) rfl rfl rfl rfl rfl hl.1 rfl (Nat.le_of_ble_eq_true rfl) dX5_look_38 ⟨Nat.le_of_ble_eq_true rfl, Nat.le_of_ble_eq_true rfl⟩ (fun H locs hP hD hS => ?_)
        refine lv_iload hx hb dX5_look_41 (lv_at hl 4 rfl) ?_
        obtain ⟨q_3, hq_3, hrun⟩ := bd_some hrun
        refine cL_callS (As := [.long q_2, .int x4]) (rest := []) (wr := (wX5 kI kJ to ta t_inputs t_undecidedPairs t_parts t_sharedParts t_partCares t_zeros t_ones t_undecided t_answers t_primeCounts t_sizes t_codes ++ (wX3 kI kJ ao aa a_inputs a_remembered a_asks a_hours a_zeros a_ones a_alarms a_faults ++ (wX1 kI kJ bo ba b_bad b_codes b_rows b_size)))) (wN := (wX5 kI kJ to ta t_inputs t_undecidedPairs t_parts t_sharedParts t_partCares t_zeros t_ones t_undecided t_answers t_primeCounts t_sizes t_codes ++ (wX3 kI kJ ao aa a_inputs a_remembered a_asks a_hours a_zeros a_ones a_alarms a_faults ++ (wX1 kI kJ bo ba b_bad b_codes b_rows b_size)))) hE (c_X2_alikeTo l D kI kJ kS q_2 x4  hq_3) (va_cwS 2 hts gX5_look_X2_alikeTo rfl rfl rfl (by decide +kernel) ⟨Nat.le_of_ble_eq_true rfl, Nat.le_of_ble_eq_true rfl⟩) hP hD hS [] [0, 1, 2, 3, 4, 5, 6, 7, 8, 9, 10, 11, 12, 13, 14, 15, 16] [0, 1, 2, 3, 4, 5, 6, 7, 8, 9, 10, 11, 12, 13, 14, 15, 16] rfl rfl rfl rfl (by decide) rfl rfl rfl hl.1 rfl (Nat.le_of_ble_eq_true rfl) dX5_look_43 ⟨Nat.le_of_ble_eq_true rfl, Nat.le_of_ble_eq_true rfl⟩ (fun H locs hP hD hS => ?_)
        refine lv_lstore (lv' := [(6, .long q_3), (0, .ref to), (1, .ref ao), (2, .int x2), (3, .ref bo), (4, .int x4), (5, .int x5)]) hx hb dX5_look_46 hl (by decide) rfl (fun ls hl => ?_)
        refine lv_aload_n hx hb dX5_look_48 rfl (lv_at hl 2 rfl) ?_
        refine lv_iload hx hb dX5_look_49 (lv_at hl 6 rfl) ?_
        obtain ⟨q_4, hq_4, hrun⟩ := bd_some hrun
        refine cL_callV (As := [.int x5]) (rest := []) (wr := (wX5 kI kJ to ta t_inputs t_undecidedPairs t_parts t_sharedParts t_partCares t_zeros t_ones t_undecided t_answers t_primeCounts t_sizes t_codes ++ (wX1 kI kJ bo ba b_bad b_codes b_rows b_size))) (wN := (wX5 kI kJ to ta t_inputs t_undecidedPairs t_parts t_sharedParts t_partCares t_zeros t_ones t_undecided t_answers t_primeCounts t_sizes t_codes ++ (wX3 kI kJ ao aa a_inputs a_remembered a_asks a_hours a_zeros a_ones a_alarms a_faults ++ (wX1 kI kJ bo ba b_bad b_codes b_rows b_size)))) (ci := 2) (q0 := 8) hE (c_X3_onesOf l D kI kJ kS ao aa x5 a_inputs a_remembered a_asks a_hours a_zeros a_ones a_alarms a_faults hq_4) (cwV 1 hts gX5_look_X3_onesOf rfl rfl rfl (by decide +kernel) ⟨Nat.le_of_ble_eq_true rfl, Nat.le_of_ble_eq_true rfl⟩) hP hD hS [8, 9, 10, 11, 12] [0, 1, 2, 3, 4, 5, 6, 7, 13, 14, 15, 16] [0, 1, 2, 3, 4, 5, 6, 7, 12, 13, 14, 15, 16, 8, 9, 10, 11] rfl rfl rfl rfl (by decide) rfl rfl rfl rfl rfl hl.1 rfl (Nat.le_of_ble_eq_true rfl) dX5_look_51 ⟨Nat.le_of_ble_eq_true rfl, Nat.le_of_ble_eq_true rfl⟩ (fun H locs hP hD hS => ?_)
        refine lv_iload hx hb dX5_look_54 (lv_at hl 5 rfl) ?_
        obtain ⟨q_5, hq_5, hrun⟩ := bd_some hrun
        refine cL_callS (As := [.long q_4, .int x4]) (rest := []) (wr := (wX5 kI kJ to ta t_inputs t_undecidedPairs t_parts t_sharedParts t_partCares t_zeros t_ones t_undecided t_answers t_primeCounts t_sizes t_codes ++ (wX3 kI kJ ao aa a_inputs a_remembered a_asks a_hours a_zeros a_ones a_alarms a_faults ++ (wX1 kI kJ bo ba b_bad b_codes b_rows b_size)))) (wN := (wX5 kI kJ to ta t_inputs t_undecidedPairs t_parts t_sharedParts t_partCares t_zeros t_ones t_undecided t_answers t_primeCounts t_sizes t_codes ++ (wX3 kI kJ ao aa a_inputs a_remembered a_asks a_hours a_zeros a_ones a_alarms a_faults ++ (wX1 kI kJ bo ba b_bad b_codes b_rows b_size)))) hE (c_X2_alikeTo l D kI kJ kS q_4 x4  hq_5) (va_cwS 2 hts gX5_look_X2_alikeTo rfl rfl rfl (by decide +kernel) ⟨Nat.le_of_ble_eq_true rfl, Nat.le_of_ble_eq_true rfl⟩) hP hD hS [] [0, 1, 2, 3, 4, 5, 6, 7, 8, 9, 10, 11, 12, 13, 14, 15, 16] [0, 1, 2, 3, 4, 5, 6, 7, 8, 9, 10, 11, 12, 13, 14, 15, 16] rfl rfl rfl rfl (by decide) rfl rfl rfl hl.1 rfl (Nat.le_of_ble_eq_true rfl) dX5_look_56 ⟨Nat.le_of_ble_eq_true rfl, Nat.le_of_ble_eq_true rfl⟩ (fun H locs hP hD hS => ?_)
        refine lv_lstore (lv' := [(8, .long q_5), (6, .long q_3), (0, .ref to), (1, .ref ao), (2, .int x2), (3, .ref bo), (4, .int x4), (5, .int x5)]) hx hb dX5_look_59 hl (by decide) rfl (fun ls hl => ?_)
        refine lv_aload_n hx hb dX5_look_61 rfl (lv_at hl 2 rfl) ?_
        refine va_get (D := D) (ci := 4) (v := .ref (ta 0)) (C := RX5) (T := TX5) (N := 12) hx hb hts iX5_look_X5 hown hK hP 0 rfl rfl 5 (by decide) (hts _ mX5_look_3) (fun _ h9 => h9) rfl dX5_look_62 ?_
        refine lv_iload hx hb dX5_look_65 (lv_at hl 7 rfl) ?_
        refine lv_lload hx hb dX5_look_67 (lv_at hl 1 rfl) ?_
        refine lv_lload hx hb dX5_look_69 (lv_at hl 0 rfl) ?_
        refine lv_ldc2 (v := (-1)) hx hb hown (hts _ mX5_look_4) dX5_look_71 ?_
        refine lv_lxor hx hb dX5_look_74 ?_
        refine lv_land hx hb dX5_look_75 ?_
        obtain ⟨hin, hrun⟩ := gd_some hrun
        refine va_last hx hb hK hP hD hS 1 1 rfl rfl hin dX5_look_76 (fun H locs hP hD hS => ?_)
        have hP : va_P D vwCl (wX5 kI kJ to ta t_inputs t_undecidedPairs t_parts t_sharedParts t_partCares (vp_updL t_zeros x5.toNatClampNeg (q_3 &&& (q_5 ^^^ ((-1))))) t_ones t_undecided t_answers t_primeCounts t_sizes t_codes ++ (wX3 kI kJ ao aa a_inputs a_remembered a_asks a_hours a_zeros a_ones a_alarms a_faults ++ (wX1 kI kJ bo ba b_bad b_codes b_rows b_size))) H := hP
        have hD : va_D A (wX5 kI kJ to ta t_inputs t_undecidedPairs t_parts t_sharedParts t_partCares (vp_updL t_zeros x5.toNatClampNeg (q_3 &&& (q_5 ^^^ ((-1))))) t_ones t_undecided t_answers t_primeCounts t_sizes t_codes ++ (wX3 kI kJ ao aa a_inputs a_remembered a_asks a_hours a_zeros a_ones a_alarms a_faults ++ (wX1 kI kJ bo ba b_bad b_codes b_rows b_size))) := hD
        refine lv_aload_n hx hb dX5_look_77 rfl (lv_at hl 2 rfl) ?_
        refine va_get (D := D) (ci := 4) (v := .ref (ta 1)) (C := RX5) (T := TX5) (N := 12) hx hb hts iX5_look_X5 hown hK hP 0 rfl rfl 6 (by decide) (hts _ mX5_look_5) (fun _ h9 => h9) rfl dX5_look_78 ?_
        refine lv_iload hx hb dX5_look_81 (lv_at hl 7 rfl) ?_
        refine lv_lload hx hb dX5_look_83 (lv_at hl 0 rfl) ?_
        refine lv_lload hx hb dX5_look_85 (lv_at hl 1 rfl) ?_
        refine lv_ldc2 (v := (-1)) hx hb hown (hts _ mX5_look_4) dX5_look_87 ?_
        refine lv_lxor hx hb dX5_look_90 ?_
        refine lv_land hx hb dX5_look_91 ?_
        obtain ⟨hin, hrun⟩ := gd_some hrun
        refine va_last hx hb hK hP hD hS 2 1 rfl rfl hin dX5_look_92 (fun H locs hP hD hS => ?_)
        have hP : va_P D vwCl (wX5 kI kJ to ta t_inputs t_undecidedPairs t_parts t_sharedParts t_partCares (vp_updL t_zeros x5.toNatClampNeg (q_3 &&& (q_5 ^^^ ((-1))))) (vp_updL t_ones x5.toNatClampNeg (q_5 &&& (q_3 ^^^ ((-1))))) t_undecided t_answers t_primeCounts t_sizes t_codes ++ (wX3 kI kJ ao aa a_inputs a_remembered a_asks a_hours a_zeros a_ones a_alarms a_faults ++ (wX1 kI kJ bo ba b_bad b_codes b_rows b_size))) H := hP
        have hD : va_D A (wX5 kI kJ to ta t_inputs t_undecidedPairs t_parts t_sharedParts t_partCares (vp_updL t_zeros x5.toNatClampNeg (q_3 &&& (q_5 ^^^ ((-1))))) (vp_updL t_ones x5.toNatClampNeg (q_5 &&& (q_3 ^^^ ((-1))))) t_undecided t_answers t_primeCounts t_sizes t_codes ++ (wX3 kI kJ ao aa a_inputs a_remembered a_asks a_hours a_zeros a_ones a_alarms a_faults ++ (wX1 kI kJ bo ba b_bad b_codes b_rows b_size))) := hD
        refine lv_aload_n hx hb dX5_look_93 rfl (lv_at hl 2 rfl) ?_
        refine va_get (D := D) (ci := 4) (v := .ref (ta 2)) (C := RX5) (T := TX5) (N := 12) hx hb hts iX5_look_X5 hown hK hP 0 rfl rfl 7 (by decide) (hts _ mX5_look_6) (fun _ h9 => h9) rfl dX5_look_94 ?_
        refine lv_iload hx hb dX5_look_97 (lv_at hl 7 rfl) ?_
        refine lv_lload hx hb dX5_look_99 (lv_at hl 1 rfl) ?_
        refine lv_lload hx hb dX5_look_101 (lv_at hl 0 rfl) ?_
        refine lv_land hx hb dX5_look_103 ?_
        obtain ⟨hin, hrun⟩ := gd_some hrun
        refine va_last hx hb hK hP hD hS 3 1 rfl rfl hin dX5_look_104 (fun H locs hP hD hS => ?_)
        have hP : va_P D vwCl (wX5 kI kJ to ta t_inputs t_undecidedPairs t_parts t_sharedParts t_partCares (vp_updL t_zeros x5.toNatClampNeg (q_3 &&& (q_5 ^^^ ((-1))))) (vp_updL t_ones x5.toNatClampNeg (q_5 &&& (q_3 ^^^ ((-1))))) (vp_updL t_undecided x5.toNatClampNeg (q_3 &&& q_5)) t_answers t_primeCounts t_sizes t_codes ++ (wX3 kI kJ ao aa a_inputs a_remembered a_asks a_hours a_zeros a_ones a_alarms a_faults ++ (wX1 kI kJ bo ba b_bad b_codes b_rows b_size))) H := hP
        have hD : va_D A (wX5 kI kJ to ta t_inputs t_undecidedPairs t_parts t_sharedParts t_partCares (vp_updL t_zeros x5.toNatClampNeg (q_3 &&& (q_5 ^^^ ((-1))))) (vp_updL t_ones x5.toNatClampNeg (q_5 &&& (q_3 ^^^ ((-1))))) (vp_updL t_undecided x5.toNatClampNeg (q_3 &&& q_5)) t_answers t_primeCounts t_sizes t_codes ++ (wX3 kI kJ ao aa a_inputs a_remembered a_asks a_hours a_zeros a_ones a_alarms a_faults ++ (wX1 kI kJ bo ba b_bad b_codes b_rows b_size))) := hD
        refine lv_aload_n hx hb dX5_look_105 rfl (lv_at hl 2 rfl) ?_
        refine lv_dup hx hb dX5_look_106 rfl ?_
        refine va_get (D := D) (ci := 4) (v := .int t_undecidedPairs) (C := RX5) (T := TX5) (N := 12) hx hb hts iX5_look_X5 hown hK hP 0 rfl rfl 1 (by decide) (hts _ mX5_look_2) (fun _ h9 => h9) rfl dX5_look_107 ?_
        refine lv_aload_n hx hb dX5_look_110 rfl (lv_at hl 2 rfl) ?_
        refine va_get (D := D) (ci := 4) (v := .ref (ta 2)) (C := RX5) (T := TX5) (N := 12) hx hb hts iX5_look_X5 hown hK hP 0 rfl rfl 7 (by decide) (hts _ mX5_look_6) (fun _ h9 => h9) rfl dX5_look_111 ?_
        refine lv_iload hx hb dX5_look_114 (lv_at hl 7 rfl) ?_
        obtain ⟨hin, hrun⟩ := gd_some hrun
        refine va_lald hx hb hK hP 3 1 rfl rfl hin dX5_look_116 ?_
        obtain ⟨q_6, hq_6, hrun⟩ := bd_some hrun
        refine cI_callS (As := [.long ((vp_updL t_undecided x5.toNatClampNeg (q_3 &&& q_5)) x5.toNatClampNeg)]) (rest := [.int t_undecidedPairs, .ref to]) (wr := (wX5 kI kJ to ta t_inputs t_undecidedPairs t_parts t_sharedParts t_partCares (vp_updL t_zeros x5.toNatClampNeg (q_3 &&& (q_5 ^^^ ((-1))))) (vp_updL t_ones x5.toNatClampNeg (q_5 &&& (q_3 ^^^ ((-1))))) (vp_updL t_undecided x5.toNatClampNeg (q_3 &&& q_5)) t_answers t_primeCounts t_sizes t_codes ++ (wX3 kI kJ ao aa a_inputs a_remembered a_asks a_hours a_zeros a_ones a_alarms a_faults ++ (wX1 kI kJ bo ba b_bad b_codes b_rows b_size)))) (wN := (wX5 kI kJ to ta t_inputs t_undecidedPairs t_parts t_sharedParts t_partCares (vp_updL t_zeros x5.toNatClampNeg (q_3 &&& (q_5 ^^^ ((-1))))) (vp_updL t_ones x5.toNatClampNeg (q_5 &&& (q_3 ^^^ ((-1))))) (vp_updL t_undecided x5.toNatClampNeg (q_3 &&& q_5)) t_answers t_primeCounts t_sizes t_codes ++ (wX3 kI kJ ao aa a_inputs a_remembered a_asks a_hours a_zeros a_ones a_alarms a_faults ++ (wX1 kI kJ bo ba b_bad b_codes b_rows b_size)))) hE (c_J13_bitCount_95d88 l D kI kJ kS ((vp_updL t_undecided x5.toNatClampNeg (q_3 &&& q_5)) x5.toNatClampNeg)  hq_6) (va_cwS 1 hts gX5_look_J13_bitCount_95d88 rfl rfl rfl (by decide +kernel) ⟨Nat.le_of_ble_eq_true rfl, Nat.le_of_ble_eq_true rfl⟩) hP hD hS [] [0, 1, 2, 3, 4, 5, 6, 7, 8, 9, 10, 11, 12, 13, 14, 15, 16] [0, 1, 2, 3, 4, 5, 6, 7, 8, 9, 10, 11, 12, 13, 14, 15, 16] rfl rfl rfl rfl (by decide) rfl rfl rfl hl.1 rfl (Nat.le_of_ble_eq_true rfl) dX5_look_117 ⟨Nat.le_of_ble_eq_true rfl, Nat.le_of_ble_eq_true rfl⟩ (fun H locs hP hD hS => ?_)
        refine lv_iadd hx hb dX5_look_120 ?_
        refine va_put (D := D) (ci := 4) (v := .int (t_undecidedPairs + q_6)) (ty := .int) (C := RX5) (T := TX5) (N := 12) hx hb hts iX5_look_X5 tyX5 tyX5_ok nmX5 hown hK hP hD hS 0 rfl rfl 1 (by decide) (hts _ mX5_look_2) (fun _ h9 => h9) rfl (by decide +kernel) rfl rfl (Nat.le_of_ble_eq_true rfl) dX5_look_121 (fun H locs hP hD hS => ?_)
        have hP : va_P D vwCl (wX5 kI kJ to ta t_inputs (t_undecidedPairs + q_6) t_parts t_sharedParts t_partCares (vp_updL t_zeros x5.toNatClampNeg (q_3 &&& (q_5 ^^^ ((-1))))) (vp_updL t_ones x5.toNatClampNeg (q_5 &&& (q_3 ^^^ ((-1))))) (vp_updL t_undecided x5.toNatClampNeg (q_3 &&& q_5)) t_answers t_primeCounts t_sizes t_codes ++ (wX3 kI kJ ao aa a_inputs a_remembered a_asks a_hours a_zeros a_ones a_alarms a_faults ++ (wX1 kI kJ bo ba b_bad b_codes b_rows b_size))) H := hP
        have hD : va_D A (wX5 kI kJ to ta t_inputs (t_undecidedPairs + q_6) t_parts t_sharedParts t_partCares (vp_updL t_zeros x5.toNatClampNeg (q_3 &&& (q_5 ^^^ ((-1))))) (vp_updL t_ones x5.toNatClampNeg (q_5 &&& (q_3 ^^^ ((-1))))) (vp_updL t_undecided x5.toNatClampNeg (q_3 &&& q_5)) t_answers t_primeCounts t_sizes t_codes ++ (wX3 kI kJ ao aa a_inputs a_remembered a_asks a_hours a_zeros a_ones a_alarms a_faults ++ (wX1 kI kJ bo ba b_bad b_codes b_rows b_size))) := hD
        refine lv_aload_n hx hb dX5_look_124 rfl (lv_at hl 5 rfl) ?_
        refine lv_aload_n hx hb dX5_look_125 rfl (lv_at hl 2 rfl) ?_
        refine va_get (D := D) (ci := 4) (v := .int t_inputs) (C := RX5) (T := TX5) (N := 12) hx hb hts iX5_look_X5 hown hK hP 0 rfl rfl 0 (by decide) (hts _ mX5_look_1) (fun _ h9 => h9) rfl dX5_look_126 ?_
        refine lv_iload_n hx hb dX5_look_129 rfl (lv_at hl 4 rfl) ?_
        refine lv_aload_n hx hb dX5_look_130 rfl (lv_at hl 2 rfl) ?_
        refine va_get (D := D) (ci := 4) (v := .ref (ta 0)) (C := RX5) (T := TX5) (N := 12) hx hb hts iX5_look_X5 hown hK hP 0 rfl rfl 5 (by decide) (hts _ mX5_look_3) (fun _ h9 => h9) rfl dX5_look_131 ?_
        refine lv_iload hx hb dX5_look_134 (lv_at hl 7 rfl) ?_
        obtain ⟨hin, hrun⟩ := gd_some hrun
        refine va_lald hx hb hK hP 1 1 rfl rfl hin dX5_look_136 ?_
        obtain ⟨q_7, hq_7, hrun⟩ := bd_some hrun
        refine cV_callV (As := [.int t_inputs, .int x2, .long ((vp_updL t_zeros x5.toNatClampNeg (q_3 &&& (q_5 ^^^ ((-1))))) x5.toNatClampNeg)]) (rest := []) (wr := (wX5 kI kJ to ta t_inputs (t_undecidedPairs + q_6) t_parts t_sharedParts t_partCares (vp_updL t_zeros x5.toNatClampNeg (q_3 &&& (q_5 ^^^ ((-1))))) (vp_updL t_ones x5.toNatClampNeg (q_5 &&& (q_3 ^^^ ((-1))))) (vp_updL t_undecided x5.toNatClampNeg (q_3 &&& q_5)) t_answers t_primeCounts t_sizes t_codes ++ (wX3 kI kJ ao aa a_inputs a_remembered a_asks a_hours a_zeros a_ones a_alarms a_faults))) (wN := (wX5 kI kJ to ta t_inputs (t_undecidedPairs + q_6) t_parts t_sharedParts t_partCares (vp_updL t_zeros x5.toNatClampNeg (q_3 &&& (q_5 ^^^ ((-1))))) (vp_updL t_ones x5.toNatClampNeg (q_5 &&& (q_3 ^^^ ((-1))))) (vp_updL t_undecided x5.toNatClampNeg (q_3 &&& q_5)) t_answers t_primeCounts t_sizes t_codes ++ (wX3 kI kJ ao aa a_inputs a_remembered a_asks a_hours a_zeros a_ones a_alarms a_faults ++ (wX1 kI kJ bo ba q_7.1 q_7.2.1 q_7.2.2.1 q_7.2.2.2)))) (ci := 1) (q0 := 13) hE (c_X1_find l D kI kJ kS bo ba t_inputs x2 ((vp_updL t_zeros x5.toNatClampNeg (q_3 &&& (q_5 ^^^ ((-1))))) x5.toNatClampNeg) b_bad b_codes b_rows b_size hq_7) (cwV 3 hts gX5_look_X1_find rfl rfl rfl (by decide +kernel) ⟨Nat.le_of_ble_eq_true rfl, Nat.le_of_ble_eq_true rfl⟩) hP hD hS [13, 14, 15, 16] [0, 1, 2, 3, 4, 5, 6, 7, 8, 9, 10, 11, 12] [0, 1, 2, 3, 4, 5, 6, 7, 8, 9, 10, 11, 12, 13, 14, 15, 16] rfl rfl rfl rfl (by decide) rfl rfl rfl rfl rfl hl.1 rfl (Nat.le_of_ble_eq_true rfl) dX5_look_137 ⟨Nat.le_of_ble_eq_true rfl, Nat.le_of_ble_eq_true rfl⟩ (fun H locs hP hD hS => ?_)
        refine lv_aload_n hx hb dX5_look_140 rfl (lv_at hl 2 rfl) ?_
        refine va_get (D := D) (ci := 4) (v := .ref (ta 4)) (C := RX5) (T := TX5) (N := 12) hx hb hts iX5_look_X5 hown hK hP 0 rfl rfl 9 (by decide) (hts _ mX5_look_7) (fun _ h9 => h9) rfl dX5_look_141 ?_
        refine lv_iload hx hb dX5_look_144 (lv_at hl 7 rfl) ?_
        refine lv_aload_n hx hb dX5_look_146 rfl (lv_at hl 5 rfl) ?_
        refine va_getN (D := D) (ci := 1) (v := .int q_7.2.2.2) (C := RX1) (T := TX1) (N := 4) hx hb hts iX5_look_X1 hown hK hP 13 rfl rfl 3 (by decide) (nf_12 hnk) (fun _ h9 => h9) rfl dX5_look_147 ?_
        obtain ⟨hin, hrun⟩ := gd_some hrun
        refine va_iast hx hb hK hP hD hS 5 0 rfl rfl hin dX5_look_150 (fun H locs hP hD hS => ?_)
        have hP : va_P D vwCl (wX5 kI kJ to ta t_inputs (t_undecidedPairs + q_6) t_parts t_sharedParts t_partCares (vp_updL t_zeros x5.toNatClampNeg (q_3 &&& (q_5 ^^^ ((-1))))) (vp_updL t_ones x5.toNatClampNeg (q_5 &&& (q_3 ^^^ ((-1))))) (vp_updL t_undecided x5.toNatClampNeg (q_3 &&& q_5)) t_answers (upd t_primeCounts x5.toNatClampNeg q_7.2.2.2) t_sizes t_codes ++ (wX3 kI kJ ao aa a_inputs a_remembered a_asks a_hours a_zeros a_ones a_alarms a_faults ++ (wX1 kI kJ bo ba q_7.1 q_7.2.1 q_7.2.2.1 q_7.2.2.2))) H := hP
        have hD : va_D A (wX5 kI kJ to ta t_inputs (t_undecidedPairs + q_6) t_parts t_sharedParts t_partCares (vp_updL t_zeros x5.toNatClampNeg (q_3 &&& (q_5 ^^^ ((-1))))) (vp_updL t_ones x5.toNatClampNeg (q_5 &&& (q_3 ^^^ ((-1))))) (vp_updL t_undecided x5.toNatClampNeg (q_3 &&& q_5)) t_answers (upd t_primeCounts x5.toNatClampNeg q_7.2.2.2) t_sizes t_codes ++ (wX3 kI kJ ao aa a_inputs a_remembered a_asks a_hours a_zeros a_ones a_alarms a_faults ++ (wX1 kI kJ bo ba q_7.1 q_7.2.1 q_7.2.2.1 q_7.2.2.2))) := hD
        refine lv_aload_n hx hb dX5_look_151 rfl (lv_at hl 2 rfl) ?_
        refine lv_aload_n hx hb dX5_look_152 rfl (lv_at hl 5 rfl) ?_
        refine lv_iload hx hb dX5_look_153 (lv_at hl 7 rfl) ?_
        obtain ⟨q_8, hq_8, hrun⟩ := bd_some hrun
        refine cV_callV (As := [.ref bo, .int x5]) (rest := []) (wr := (wX3 kI kJ ao aa a_inputs a_remembered a_asks a_hours a_zeros a_ones a_alarms a_faults)) (wN := (wX5 kI kJ to ta t_inputs (t_undecidedPairs + q_6) t_parts t_sharedParts t_partCares (vp_updL t_zeros x5.toNatClampNeg (q_3 &&& (q_5 ^^^ ((-1))))) (vp_updL t_ones x5.toNatClampNeg (q_5 &&& (q_3 ^^^ ((-1))))) (vp_updL t_undecided x5.toNatClampNeg (q_3 &&& q_5)) q_8.1 (upd t_primeCounts x5.toNatClampNeg q_7.2.2.2) q_8.2.1 q_8.2.2 ++ (wX3 kI kJ ao aa a_inputs a_remembered a_asks a_hours a_zeros a_ones a_alarms a_faults ++ (wX1 kI kJ bo ba q_7.1 q_7.2.1 q_7.2.2.1 q_7.2.2.2)))) (ci := 4) (q0 := 0) hE (c_X5_coverWith l D kI kJ kS to ta bo ba x5 t_inputs (t_undecidedPairs + q_6) t_parts t_sharedParts t_partCares (vp_updL t_zeros x5.toNatClampNeg (q_3 &&& (q_5 ^^^ ((-1))))) (vp_updL t_ones x5.toNatClampNeg (q_5 &&& (q_3 ^^^ ((-1))))) (vp_updL t_undecided x5.toNatClampNeg (q_3 &&& q_5)) t_answers (upd t_primeCounts x5.toNatClampNeg q_7.2.2.2) t_sizes t_codes q_7.1 q_7.2.1 q_7.2.2.1 q_7.2.2.2 hq_8) (cwV 2 hts gX5_look_X5_coverWith rfl rfl rfl (by decide +kernel) ⟨Nat.le_of_ble_eq_true rfl, Nat.le_of_ble_eq_true rfl⟩) hP hD hS [0, 1, 2, 3, 4, 5, 6, 7, 13, 14, 15, 16] [8, 9, 10, 11, 12] [5, 6, 7, 8, 9, 10, 11, 12, 0, 1, 2, 3, 4, 13, 14, 15, 16] rfl rfl rfl rfl (by decide) rfl rfl rfl rfl rfl hl.1 rfl (Nat.le_of_ble_eq_true rfl) dX5_look_155 ⟨Nat.le_of_ble_eq_true rfl, Nat.le_of_ble_eq_true rfl⟩ (fun H locs hP hD hS => ?_)
        refine lv_iinc (v := x5 + 1) (lv' := [(5, .int (x5 + 1)), (8, .long q_5), (6, .long q_3), (0, .ref to), (1, .ref ao), (2, .int x2), (3, .ref bo), (4, .int x4)]) hx hb dX5_look_158 hl (k := 7) rfl rfl (by decide) rfl (fun ls hl => ?_)
        refine lv_goto (tgt := 29) hx hb dX5_look_161 (by decide) ?_
        exact ih (x5 + 1) (t_undecidedPairs + q_6) (vp_updL t_zeros x5.toNatClampNeg (q_3 &&& (q_5 ^^^ ((-1))))) (vp_updL t_ones x5.toNatClampNeg (q_5 &&& (q_3 ^^^ ((-1))))) (vp_updL t_undecided x5.toNatClampNeg (q_3 &&& q_5)) q_8.1 (upd t_primeCounts x5.toNatClampNeg q_7.2.2.2) q_8.2.1 q_8.2.2 q_7.1 q_7.2.1 q_7.2.2.1 q_7.2.2.2 t_parts t_sharedParts t_partCares hrun _ _ _ hP hD hS (lv_sub hl [3, 4, 5, 6, 7, 0] rfl)
  unfold fX5_look at hrun
  refine lv_aload_n hx hb dX5_look_0 rfl (lv_at hl 0 rfl) ?_
  refine lv_aload_n hx hb dX5_look_1 rfl (lv_at hl 1 rfl) ?_
  refine va_getN (D := D) (ci := 2) (v := .int a_inputs) (C := RX3) (T := TX3) (N := 8) hx hb hts iX5_look_X3 hown hK hP 8 rfl rfl 0 (by decide) (nf_0 hnk) (fun _ h9 => h9) rfl dX5_look_2 ?_
  refine va_put (D := D) (ci := 4) (v := .int a_inputs) (ty := .int) (C := RX5) (T := TX5) (N := 12) hx hb hts iX5_look_X5 tyX5 tyX5_ok nmX5 hown hK hP hD hS 0 rfl rfl 0 (by decide) (hts _ mX5_look_1) (fun _ h9 => h9) rfl (by decide +kernel) rfl rfl (Nat.le_of_ble_eq_true rfl) dX5_look_5 (fun H locs hP hD hS => ?_)
  have hP : va_P D vwCl (wX5 kI kJ to ta a_inputs t_undecidedPairs t_parts t_sharedParts t_partCares t_zeros t_ones t_undecided t_answers t_primeCounts t_sizes t_codes ++ (wX3 kI kJ ao aa a_inputs a_remembered a_asks a_hours a_zeros a_ones a_alarms a_faults ++ (wX1 kI kJ bo ba b_bad b_codes b_rows b_size))) H := hP
  have hD : va_D A (wX5 kI kJ to ta a_inputs t_undecidedPairs t_parts t_sharedParts t_partCares t_zeros t_ones t_undecided t_answers t_primeCounts t_sizes t_codes ++ (wX3 kI kJ ao aa a_inputs a_remembered a_asks a_hours a_zeros a_ones a_alarms a_faults ++ (wX1 kI kJ bo ba b_bad b_codes b_rows b_size))) := hD
  refine lv_aload_n hx hb dX5_look_8 rfl (lv_at hl 0 rfl) ?_
  refine lv_iconst (v := 0) hx hb dX5_look_9 (by decide) ?_
  refine va_put (D := D) (ci := 4) (v := .int 0) (ty := .int) (C := RX5) (T := TX5) (N := 12) hx hb hts iX5_look_X5 tyX5 tyX5_ok nmX5 hown hK hP hD hS 0 rfl rfl 1 (by decide) (hts _ mX5_look_2) (fun _ h9 => h9) rfl (by decide +kernel) rfl rfl (Nat.le_of_ble_eq_true rfl) dX5_look_10 (fun H locs hP hD hS => ?_)
  have hP : va_P D vwCl (wX5 kI kJ to ta a_inputs 0 t_parts t_sharedParts t_partCares t_zeros t_ones t_undecided t_answers t_primeCounts t_sizes t_codes ++ (wX3 kI kJ ao aa a_inputs a_remembered a_asks a_hours a_zeros a_ones a_alarms a_faults ++ (wX1 kI kJ bo ba b_bad b_codes b_rows b_size))) H := hP
  have hD : va_D A (wX5 kI kJ to ta a_inputs 0 t_parts t_sharedParts t_partCares t_zeros t_ones t_undecided t_answers t_primeCounts t_sizes t_codes ++ (wX3 kI kJ ao aa a_inputs a_remembered a_asks a_hours a_zeros a_ones a_alarms a_faults ++ (wX1 kI kJ bo ba b_bad b_codes b_rows b_size))) := hD
  refine lv_aload_n hx hb dX5_look_13 rfl (lv_at hl 0 rfl) ?_
  refine va_get (D := D) (ci := 4) (v := .int a_inputs) (C := RX5) (T := TX5) (N := 12) hx hb hts iX5_look_X5 hown hK hP 0 rfl rfl 0 (by decide) (hts _ mX5_look_1) (fun _ h9 => h9) rfl dX5_look_14 ?_
  obtain ⟨q_9, hq_9, hrun⟩ := bd_some hrun
  refine cI_callS (As := [.int a_inputs]) (rest := []) (wr := (wX5 kI kJ to ta a_inputs 0 t_parts t_sharedParts t_partCares t_zeros t_ones t_undecided t_answers t_primeCounts t_sizes t_codes ++ (wX3 kI kJ ao aa a_inputs a_remembered a_asks a_hours a_zeros a_ones a_alarms a_faults ++ (wX1 kI kJ bo ba b_bad b_codes b_rows b_size)))) (wN := (wX5 kI kJ to ta a_inputs 0 t_parts t_sharedParts t_partCares t_zeros t_ones t_undecided t_answers t_primeCounts t_sizes t_codes ++ (wX3 kI kJ ao aa a_inputs a_remembered a_asks a_hours a_zeros a_ones a_alarms a_faults ++ (wX1 kI kJ bo ba b_bad b_codes b_rows b_size)))) hE (c_X2_inputSet l D kI kJ kS a_inputs  hq_9) (va_cwS 1 hts gX5_look_X2_inputSet rfl rfl rfl (by decide +kernel) ⟨Nat.le_of_ble_eq_true rfl, Nat.le_of_ble_eq_true rfl⟩) hP hD hS [] [0, 1, 2, 3, 4, 5, 6, 7, 8, 9, 10, 11, 12, 13, 14, 15, 16] [0, 1, 2, 3, 4, 5, 6, 7, 8, 9, 10, 11, 12, 13, 14, 15, 16] rfl rfl rfl rfl (by decide) rfl rfl rfl hl.1 rfl (Nat.le_of_ble_eq_true rfl) dX5_look_17 ⟨Nat.le_of_ble_eq_true rfl, Nat.le_of_ble_eq_true rfl⟩ (fun H locs hP hD hS => ?_)
  refine lv_iload_n hx hb dX5_look_20 rfl (lv_at hl 2 rfl) ?_
  refine lv_iconst (v := (-1)) hx hb dX5_look_21 (by decide) ?_
  refine lv_ixor hx hb dX5_look_22 ?_
  refine lv_iand hx hb dX5_look_23 ?_
  refine lv_istore (lv' := [(4, .int (q_9 &&& (x2 ^^^ ((-1))))), (0, .ref to), (1, .ref ao), (2, .int x2), (3, .ref bo)]) hx hb dX5_look_24 hl (by decide) rfl (fun ls hl => ?_)
  refine lv_iconst (v := 0) hx hb dX5_look_26 (by decide) ?_
  refine lv_istore (lv' := [(5, .int 0), (4, .int (q_9 &&& (x2 ^^^ ((-1))))), (0, .ref to), (1, .ref ao), (2, .int x2), (3, .ref bo)]) hx hb dX5_look_27 hl (by decide) rfl (fun ls hl => ?_)
  exact c_L29 x2 (q_9 &&& (x2 ^^^ ((-1)))) a_inputs 5000 0 0 t_zeros t_ones t_undecided t_answers t_primeCounts t_sizes t_codes b_bad b_codes b_rows b_size t_parts t_sharedParts t_partCares hrun _ _ _ hP hD hS (lv_sub hl [2, 3, 4, 5, 1, 0] rfl)
