set_option maxHeartbeats 4000000 in
set_option maxRecDepth 100000 in
theorem c_X0_keep_3_0 (l : Launch) (D : va_G) (kI kJ kS : ClassId) (ho : Nat) (hr : Nat) (ao : Nat) (aa : Nat → Nat) (a_inputs : Int32) (a_remembered : Int32) (a_asks : Int32) (a_hours : Int32) (a_zeros : Nat → Int64) (a_ones : Nat → Int64) (a_alarms : Nat → Int32) (a_faults : Nat → Int32) (so : Nat → Nat) (sa : Nat → Nat → Nat) (vs : Nat → SV) (vals : Nat → SV) (hv : ∀ j, j < 0 → svEq (vs j) (vals j)) : gV l D (tyL kI kJ kS) yX0_keep wsX0_keep (rmk 2 5 24 32) [.ref ho, .ref ao] ((wX0 ho hr 0 ++ wX3 kI kJ ao aa a_inputs a_remembered a_asks a_hours a_zeros a_ones a_alarms a_faults) ++ (svA kS hr so 3 ++ svs kI kJ so sa vs 3)) (wX0 ho hr 1 ++ wX3 kI kJ ao aa a_inputs a_remembered a_asks a_hours a_zeros a_ones a_alarms a_faults) (TL kI kJ kS hr 1 (vup vals 0 (a_inputs, a_remembered, a_asks, a_hours, a_zeros, a_ones, a_alarms, a_faults))) := by
  refine gV_of (cc := cX0_keep) (maxL := 2) (by decide) rfl (Nat.le_of_ble_eq_true rfl) ?_
  intro p e s m av below meth c A Q ls hE hP hD hS hl hret
  have hE : ent_ p s m av meth c RX0 cX0_keep 2 none wsX0_keep (tyL kI kJ kS) D A true := hE
  obtain ⟨hx, hb, hml, hown, hts, hrt, hlocks, hK, hA, hst⟩ := id hE
  have hl : lv_has ls 2 [(0, .ref ho), (1, .ref ao)] := hl
  refine lv_aload_n hx hb dX0_keep_0 rfl (lv_at hl 0 rfl) ?_
  refine va_get (D := D) (ci := 0) (v := .int 0) (C := RX0) (T := TX0) (N := 2) hx hb hts iX0_keep_X0 hown hK hP 0 rfl rfl 1 (by decide) (hts _ mX0_keep_1) (fun _ h9 => h9) rfl dX0_keep_1 ?_
  refine lv_aload_n hx hb dX0_keep_4 rfl (lv_at hl 0 rfl) ?_
  refine va_get (D := D) (ci := 0) (v := .ref hr) (C := RX0) (T := TX0) (N := 2) hx hb hts iX0_keep_X0 hown hK hP 0 rfl rfl 0 (by decide) (hts _ mX0_keep_2) (fun _ h9 => h9) rfl dX0_keep_5 ?_
  refine va_alen (v := 6) hx hb hK hP 6 2 rfl rfl rfl dX0_keep_8 ?_
  refine lv_icmp_lt (tgt := 27) hx hb dX0_keep_9 (by decide) (fun _ => ?_) (fun hc => absurd hc (by decide))
  refine lv_aload_n hx hb dX0_keep_27 rfl (lv_at hl 0 rfl) ?_
  refine va_get (D := D) (ci := 0) (v := .int 0) (C := RX0) (T := TX0) (N := 2) hx hb hts iX0_keep_X0 hown hK hP 0 rfl rfl 1 (by decide) (hts _ mX0_keep_1) (fun _ h9 => h9) rfl dX0_keep_28 ?_
  refine lv_if_lt (tgt := 97) hx hb dX0_keep_31 (by decide) (fun hc => absurd hc (by decide)) (fun _ => ?_)
  refine lv_aload_n hx hb dX0_keep_34 rfl (lv_at hl 0 rfl) ?_
  refine va_get (D := D) (ci := 0) (v := .int 0) (C := RX0) (T := TX0) (N := 2) hx hb hts iX0_keep_X0 hown hK hP 0 rfl rfl 1 (by decide) (hts _ mX0_keep_1) (fun _ h9 => h9) rfl dX0_keep_35 ?_
  refine lv_aload_n hx hb dX0_keep_38 rfl (lv_at hl 0 rfl) ?_
  refine va_get (D := D) (ci := 0) (v := .ref hr) (C := RX0) (T := TX0) (N := 2) hx hb hts iX0_keep_X0 hown hK hP 0 rfl rfl 0 (by decide) (hts _ mX0_keep_2) (fun _ h9 => h9) rfl dX0_keep_39 ?_
  refine va_alen (v := 6) hx hb hK hP 6 2 rfl rfl rfl dX0_keep_42 ?_
  refine lv_icmp_ge (tgt := 97) hx hb dX0_keep_43 (by decide) (fun hc => absurd hc (by decide)) (fun _ => ?_)
  refine lv_aload_n hx hb dX0_keep_46 rfl (lv_at hl 0 rfl) ?_
  refine va_get (D := D) (ci := 0) (v := .ref hr) (C := RX0) (T := TX0) (N := 2) hx hb hts iX0_keep_X0 hown hK hP 0 rfl rfl 0 (by decide) (hts _ mX0_keep_2) (fun _ h9 => h9) rfl dX0_keep_47 ?_
  refine lv_aload_n hx hb dX0_keep_50 rfl (lv_at hl 0 rfl) ?_
  refine va_get (D := D) (ci := 0) (v := .int 0) (C := RX0) (T := TX0) (N := 2) hx hb hts iX0_keep_X0 hown hK hP 0 rfl rfl 1 (by decide) (hts _ mX0_keep_1) (fun _ h9 => h9) rfl dX0_keep_51 ?_
  refine va_aldq hx hb hK hP 6 2 rfl rfl (by unfold vp_in; decide) dX0_keep_54 ?_
  refine W.eq (g2 := F0 m 55 ls [.ref (so 0)]) rfl ?_
  refine lv_ifnonnull (tgt := 74) hx hb dX0_keep_55 (by decide) ?_
  refine lv_aload_n hx hb dX0_keep_74 rfl (lv_at hl 0 rfl) ?_
  refine va_get (D := D) (ci := 0) (v := .ref hr) (C := RX0) (T := TX0) (N := 2) hx hb hts iX0_keep_X0 hown hK hP 0 rfl rfl 0 (by decide) (hts _ mX0_keep_2) (fun _ h9 => h9) rfl dX0_keep_75 ?_
  refine lv_aload_n hx hb dX0_keep_78 rfl (lv_at hl 0 rfl) ?_
  refine va_get (D := D) (ci := 0) (v := .int 0) (C := RX0) (T := TX0) (N := 2) hx hb hts iX0_keep_X0 hown hK hP 0 rfl rfl 1 (by decide) (hts _ mX0_keep_1) (fun _ h9 => h9) rfl dX0_keep_79 ?_
  refine va_aldq hx hb hK hP 6 2 rfl rfl (by unfold vp_in; decide) dX0_keep_82 ?_
  refine W.eq (g2 := F0 m 83 ls [.ref (so 0)]) rfl ?_
  refine lv_aload_n hx hb dX0_keep_83 rfl (lv_at hl 1 rfl) ?_
  obtain ⟨q, hq, hqe⟩ := cfh_ex (vs 0).2.2.2.2.1 (vs 0).2.2.2.2.2.1 (vs 0).2.2.2.2.2.2.1 (vs 0).2.2.2.2.2.2.2 a_inputs a_remembered a_asks a_hours a_zeros a_ones a_alarms a_faults
  refine cV_callV (As := [.ref ao]) (rest := []) (wr := List.filterMap (fun i => (((wX0 ho hr 0 ++ wX3 kI kJ ao aa a_inputs a_remembered a_asks a_hours a_zeros a_ones a_alarms a_faults) ++ (svA kS hr so 3 ++ svs kI kJ so sa vs 3)))[i]?) [0, 6, 12, 13, 14, 15, 16, 17, 18, 19, 20, 21]) (wN := ((wX0 ho hr 0 ++ wX3 kI kJ ao aa a_inputs a_remembered a_asks a_hours a_zeros a_ones a_alarms a_faults) ++ (svA kS hr so 3 ++ svs kI kJ so sa (vup vs 0 q) 3))) (ci := 2) (q0 := 7) hE (c_X3_copyFrom l D kI kJ kS (so 0) (sa 0) ao aa (vs 0).1 (vs 0).2.1 (vs 0).2.2.1 (vs 0).2.2.2.1 (vs 0).2.2.2.2.1 (vs 0).2.2.2.2.2.1 (vs 0).2.2.2.2.2.2.1 (vs 0).2.2.2.2.2.2.2 a_inputs a_remembered a_asks a_hours a_zeros a_ones a_alarms a_faults hq) (cwV 1 hts gX0_keep_X3_copyFrom rfl rfl rfl (by decide +kernel) ⟨Nat.le_of_ble_eq_true rfl, Nat.le_of_ble_eq_true rfl⟩) hP hD hS [7, 8, 9, 10, 11, 1, 2, 3, 4, 5] [0, 6, 12, 13, 14, 15, 16, 17, 18, 19, 20, 21] [0, 17, 18, 19, 20, 21, 1, 12, 13, 14, 15, 16, 2, 3, 4, 5, 6, 7, 8, 9, 10, 11] rfl rfl rfl rfl (by decide) rfl rfl rfl rfl rfl hl.1 rfl (Nat.le_of_ble_eq_true rfl) dX0_keep_84 ⟨Nat.le_of_ble_eq_true rfl, Nat.le_of_ble_eq_true rfl⟩ (fun H locs hP hD hS => ?_)
  refine lv_aload_n hx hb dX0_keep_87 rfl (lv_at hl 0 rfl) ?_
  refine lv_dup hx hb dX0_keep_88 rfl ?_
  refine va_get (D := D) (ci := 0) (v := .int 0) (C := RX0) (T := TX0) (N := 2) hx hb hts iX0_keep_X0 hown hK hP 0 rfl rfl 1 (by decide) (hts _ mX0_keep_1) (fun _ h9 => h9) rfl dX0_keep_89 ?_
  refine lv_iconst (v := 1) hx hb dX0_keep_92 (by decide) ?_
  refine lv_iadd hx hb dX0_keep_93 ?_
  refine W.eq (g2 := F0 m 94 ls [.int 1, .ref ho]) rfl ?_
  refine va_put (D := D) (ci := 0) (v := .int 1) (ty := .int) (C := RX0) (T := TX0) (N := 2) hx hb hts iX0_keep_X0 tyX0 tyX0_ok nmX0 hown hK hP hD hS 0 rfl rfl 1 (by decide) (hts _ mX0_keep_1) (fun _ h9 => h9) rfl (by decide +kernel) rfl rfl (Nat.le_of_ble_eq_true rfl) dX0_keep_94 (fun H locs hP hD hS => ?_)
  have hP : va_P D vwCl ((wX0 ho hr 1 ++ wX3 kI kJ ao aa a_inputs a_remembered a_asks a_hours a_zeros a_ones a_alarms a_faults) ++ (svA kS hr so 3 ++ svs kI kJ so sa (vup vs 0 q) 3)) H := hP
  have hD : va_D A ((wX0 ho hr 1 ++ wX3 kI kJ ao aa a_inputs a_remembered a_asks a_hours a_zeros a_ones a_alarms a_faults) ++ (svA kS hr so 3 ++ svs kI kJ so sa (vup vs 0 q) 3)) := hD
  refine W.widen (k := 5) (n := 24) (Nat.le_of_ble_eq_true rfl) (Nat.le_of_ble_eq_true rfl) ?_
  refine hret _ _ _ _ (svA kS hr so 3 ++ svs kI kJ so sa (vup vs 0 q) 3) ⟨3, 1, so, sa, (vup vs 0 q), by decide, by decide, rfl, ?_, rfl⟩ dX0_keep_97 hP hD hS
  exact kp_ok (vs := vs) (vals := vals) 0 hv hqe
set_option maxHeartbeats 4000000 in
set_option maxRecDepth 100000 in
theorem c_X0_keep_3_1 (l : Launch) (D : va_G) (kI kJ kS : ClassId) (ho : Nat) (hr : Nat) (ao : Nat) (aa : Nat → Nat) (a_inputs : Int32) (a_remembered : Int32) (a_asks : Int32) (a_hours : Int32) (a_zeros : Nat → Int64) (a_ones : Nat → Int64) (a_alarms : Nat → Int32) (a_faults : Nat → Int32) (so : Nat → Nat) (sa : Nat → Nat → Nat) (vs : Nat → SV) (vals : Nat → SV) (hv : ∀ j, j < 1 → svEq (vs j) (vals j)) : gV l D (tyL kI kJ kS) yX0_keep wsX0_keep (rmk 2 5 24 32) [.ref ho, .ref ao] ((wX0 ho hr 1 ++ wX3 kI kJ ao aa a_inputs a_remembered a_asks a_hours a_zeros a_ones a_alarms a_faults) ++ (svA kS hr so 3 ++ svs kI kJ so sa vs 3)) (wX0 ho hr 2 ++ wX3 kI kJ ao aa a_inputs a_remembered a_asks a_hours a_zeros a_ones a_alarms a_faults) (TL kI kJ kS hr 2 (vup vals 1 (a_inputs, a_remembered, a_asks, a_hours, a_zeros, a_ones, a_alarms, a_faults))) := by
  refine gV_of (cc := cX0_keep) (maxL := 2) (by decide) rfl (Nat.le_of_ble_eq_true rfl) ?_
  intro p e s m av below meth c A Q ls hE hP hD hS hl hret
  have hE : ent_ p s m av meth c RX0 cX0_keep 2 none wsX0_keep (tyL kI kJ kS) D A true := hE
  obtain ⟨hx, hb, hml, hown, hts, hrt, hlocks, hK, hA, hst⟩ := id hE
  have hl : lv_has ls 2 [(0, .ref ho), (1, .ref ao)] := hl
  refine lv_aload_n hx hb dX0_keep_0 rfl (lv_at hl 0 rfl) ?_
  refine va_get (D := D) (ci := 0) (v := .int 1) (C := RX0) (T := TX0) (N := 2) hx hb hts iX0_keep_X0 hown hK hP 0 rfl rfl 1 (by decide) (hts _ mX0_keep_1) (fun _ h9 => h9) rfl dX0_keep_1 ?_
  refine lv_aload_n hx hb dX0_keep_4 rfl (lv_at hl 0 rfl) ?_
  refine va_get (D := D) (ci := 0) (v := .ref hr) (C := RX0) (T := TX0) (N := 2) hx hb hts iX0_keep_X0 hown hK hP 0 rfl rfl 0 (by decide) (hts _ mX0_keep_2) (fun _ h9 => h9) rfl dX0_keep_5 ?_
  refine va_alen (v := 6) hx hb hK hP 6 2 rfl rfl rfl dX0_keep_8 ?_
  refine lv_icmp_lt (tgt := 27) hx hb dX0_keep_9 (by decide) (fun _ => ?_) (fun hc => absurd hc (by decide))
  refine lv_aload_n hx hb dX0_keep_27 rfl (lv_at hl 0 rfl) ?_
  refine va_get (D := D) (ci := 0) (v := .int 1) (C := RX0) (T := TX0) (N := 2) hx hb hts iX0_keep_X0 hown hK hP 0 rfl rfl 1 (by decide) (hts _ mX0_keep_1) (fun _ h9 => h9) rfl dX0_keep_28 ?_
  refine lv_if_lt (tgt := 97) hx hb dX0_keep_31 (by decide) (fun hc => absurd hc (by decide)) (fun _ => ?_)
  refine lv_aload_n hx hb dX0_keep_34 rfl (lv_at hl 0 rfl) ?_
  refine va_get (D := D) (ci := 0) (v := .int 1) (C := RX0) (T := TX0) (N := 2) hx hb hts iX0_keep_X0 hown hK hP 0 rfl rfl 1 (by decide) (hts _ mX0_keep_1) (fun _ h9 => h9) rfl dX0_keep_35 ?_
  refine lv_aload_n hx hb dX0_keep_38 rfl (lv_at hl 0 rfl) ?_
  refine va_get (D := D) (ci := 0) (v := .ref hr) (C := RX0) (T := TX0) (N := 2) hx hb hts iX0_keep_X0 hown hK hP 0 rfl rfl 0 (by decide) (hts _ mX0_keep_2) (fun _ h9 => h9) rfl dX0_keep_39 ?_
  refine va_alen (v := 6) hx hb hK hP 6 2 rfl rfl rfl dX0_keep_42 ?_
  refine lv_icmp_ge (tgt := 97) hx hb dX0_keep_43 (by decide) (fun hc => absurd hc (by decide)) (fun _ => ?_)
  refine lv_aload_n hx hb dX0_keep_46 rfl (lv_at hl 0 rfl) ?_
  refine va_get (D := D) (ci := 0) (v := .ref hr) (C := RX0) (T := TX0) (N := 2) hx hb hts iX0_keep_X0 hown hK hP 0 rfl rfl 0 (by decide) (hts _ mX0_keep_2) (fun _ h9 => h9) rfl dX0_keep_47 ?_
  refine lv_aload_n hx hb dX0_keep_50 rfl (lv_at hl 0 rfl) ?_
  refine va_get (D := D) (ci := 0) (v := .int 1) (C := RX0) (T := TX0) (N := 2) hx hb hts iX0_keep_X0 hown hK hP 0 rfl rfl 1 (by decide) (hts _ mX0_keep_1) (fun _ h9 => h9) rfl dX0_keep_51 ?_
  refine va_aldq hx hb hK hP 6 2 rfl rfl (by unfold vp_in; decide) dX0_keep_54 ?_
  refine W.eq (g2 := F0 m 55 ls [.ref (so 1)]) rfl ?_
  refine lv_ifnonnull (tgt := 74) hx hb dX0_keep_55 (by decide) ?_
  refine lv_aload_n hx hb dX0_keep_74 rfl (lv_at hl 0 rfl) ?_
  refine va_get (D := D) (ci := 0) (v := .ref hr) (C := RX0) (T := TX0) (N := 2) hx hb hts iX0_keep_X0 hown hK hP 0 rfl rfl 0 (by decide) (hts _ mX0_keep_2) (fun _ h9 => h9) rfl dX0_keep_75 ?_
  refine lv_aload_n hx hb dX0_keep_78 rfl (lv_at hl 0 rfl) ?_
  refine va_get (D := D) (ci := 0) (v := .int 1) (C := RX0) (T := TX0) (N := 2) hx hb hts iX0_keep_X0 hown hK hP 0 rfl rfl 1 (by decide) (hts _ mX0_keep_1) (fun _ h9 => h9) rfl dX0_keep_79 ?_
  refine va_aldq hx hb hK hP 6 2 rfl rfl (by unfold vp_in; decide) dX0_keep_82 ?_
  refine W.eq (g2 := F0 m 83 ls [.ref (so 1)]) rfl ?_
  refine lv_aload_n hx hb dX0_keep_83 rfl (lv_at hl 1 rfl) ?_
  obtain ⟨q, hq, hqe⟩ := cfh_ex (vs 1).2.2.2.2.1 (vs 1).2.2.2.2.2.1 (vs 1).2.2.2.2.2.2.1 (vs 1).2.2.2.2.2.2.2 a_inputs a_remembered a_asks a_hours a_zeros a_ones a_alarms a_faults
  refine cV_callV (As := [.ref ao]) (rest := []) (wr := List.filterMap (fun i => (((wX0 ho hr 1 ++ wX3 kI kJ ao aa a_inputs a_remembered a_asks a_hours a_zeros a_ones a_alarms a_faults) ++ (svA kS hr so 3 ++ svs kI kJ so sa vs 3)))[i]?) [0, 6, 7, 8, 9, 10, 11, 17, 18, 19, 20, 21]) (wN := ((wX0 ho hr 1 ++ wX3 kI kJ ao aa a_inputs a_remembered a_asks a_hours a_zeros a_ones a_alarms a_faults) ++ (svA kS hr so 3 ++ svs kI kJ so sa (vup vs 1 q) 3))) (ci := 2) (q0 := 12) hE (c_X3_copyFrom l D kI kJ kS (so 1) (sa 1) ao aa (vs 1).1 (vs 1).2.1 (vs 1).2.2.1 (vs 1).2.2.2.1 (vs 1).2.2.2.2.1 (vs 1).2.2.2.2.2.1 (vs 1).2.2.2.2.2.2.1 (vs 1).2.2.2.2.2.2.2 a_inputs a_remembered a_asks a_hours a_zeros a_ones a_alarms a_faults hq) (cwV 1 hts gX0_keep_X3_copyFrom rfl rfl rfl (by decide +kernel) ⟨Nat.le_of_ble_eq_true rfl, Nat.le_of_ble_eq_true rfl⟩) hP hD hS [12, 13, 14, 15, 16, 1, 2, 3, 4, 5] [0, 6, 7, 8, 9, 10, 11, 17, 18, 19, 20, 21] [0, 17, 18, 19, 20, 21, 1, 2, 3, 4, 5, 6, 12, 13, 14, 15, 16, 7, 8, 9, 10, 11] rfl rfl rfl rfl (by decide) rfl rfl rfl rfl rfl hl.1 rfl (Nat.le_of_ble_eq_true rfl) dX0_keep_84 ⟨Nat.le_of_ble_eq_true rfl, Nat.le_of_ble_eq_true rfl⟩ (fun H locs hP hD hS => ?_)
  refine lv_aload_n hx hb dX0_keep_87 rfl (lv_at hl 0 rfl) ?_
  refine lv_dup hx hb dX0_keep_88 rfl ?_
  refine va_get (D := D) (ci := 0) (v := .int 1) (C := RX0) (T := TX0) (N := 2) hx hb hts iX0_keep_X0 hown hK hP 0 rfl rfl 1 (by decide) (hts _ mX0_keep_1) (fun _ h9 => h9) rfl dX0_keep_89 ?_
  refine lv_iconst (v := 1) hx hb dX0_keep_92 (by decide) ?_
  refine lv_iadd hx hb dX0_keep_93 ?_
  refine W.eq (g2 := F0 m 94 ls [.int 2, .ref ho]) rfl ?_
  refine va_put (D := D) (ci := 0) (v := .int 2) (ty := .int) (C := RX0) (T := TX0) (N := 2) hx hb hts iX0_keep_X0 tyX0 tyX0_ok nmX0 hown hK hP hD hS 0 rfl rfl 1 (by decide) (hts _ mX0_keep_1) (fun _ h9 => h9) rfl (by decide +kernel) rfl rfl (Nat.le_of_ble_eq_true rfl) dX0_keep_94 (fun H locs hP hD hS => ?_)
  have hP : va_P D vwCl ((wX0 ho hr 2 ++ wX3 kI kJ ao aa a_inputs a_remembered a_asks a_hours a_zeros a_ones a_alarms a_faults) ++ (svA kS hr so 3 ++ svs kI kJ so sa (vup vs 1 q) 3)) H := hP
  have hD : va_D A ((wX0 ho hr 2 ++ wX3 kI kJ ao aa a_inputs a_remembered a_asks a_hours a_zeros a_ones a_alarms a_faults) ++ (svA kS hr so 3 ++ svs kI kJ so sa (vup vs 1 q) 3)) := hD
  refine W.widen (k := 5) (n := 24) (Nat.le_of_ble_eq_true rfl) (Nat.le_of_ble_eq_true rfl) ?_
  refine hret _ _ _ _ (svA kS hr so 3 ++ svs kI kJ so sa (vup vs 1 q) 3) ⟨3, 2, so, sa, (vup vs 1 q), by decide, by decide, rfl, ?_, rfl⟩ dX0_keep_97 hP hD hS
  exact kp_ok (vs := vs) (vals := vals) 1 hv hqe
set_option maxHeartbeats 4000000 in
set_option maxRecDepth 100000 in
theorem c_X0_keep_3_2 (l : Launch) (D : va_G) (kI kJ kS : ClassId) (ho : Nat) (hr : Nat) (ao : Nat) (aa : Nat → Nat) (a_inputs : Int32) (a_remembered : Int32) (a_asks : Int32) (a_hours : Int32) (a_zeros : Nat → Int64) (a_ones : Nat → Int64) (a_alarms : Nat → Int32) (a_faults : Nat → Int32) (so : Nat → Nat) (sa : Nat → Nat → Nat) (vs : Nat → SV) (vals : Nat → SV) (hv : ∀ j, j < 2 → svEq (vs j) (vals j)) : gV l D (tyL kI kJ kS) yX0_keep wsX0_keep (rmk 2 5 24 32) [.ref ho, .ref ao] ((wX0 ho hr 2 ++ wX3 kI kJ ao aa a_inputs a_remembered a_asks a_hours a_zeros a_ones a_alarms a_faults) ++ (svA kS hr so 3 ++ svs kI kJ so sa vs 3)) (wX0 ho hr 3 ++ wX3 kI kJ ao aa a_inputs a_remembered a_asks a_hours a_zeros a_ones a_alarms a_faults) (TL kI kJ kS hr 3 (vup vals 2 (a_inputs, a_remembered, a_asks, a_hours, a_zeros, a_ones, a_alarms, a_faults))) := by
  refine gV_of (cc := cX0_keep) (maxL := 2) (by decide) rfl (Nat.le_of_ble_eq_true rfl) ?_
  intro p e s m av below meth c A Q ls hE hP hD hS hl hret
  have hE : ent_ p s m av meth c RX0 cX0_keep 2 none wsX0_keep (tyL kI kJ kS) D A true := hE
  obtain ⟨hx, hb, hml, hown, hts, hrt, hlocks, hK, hA, hst⟩ := id hE
  have hl : lv_has ls 2 [(0, .ref ho), (1, .ref ao)] := hl
  refine lv_aload_n hx hb dX0_keep_0 rfl (lv_at hl 0 rfl) ?_
  refine va_get (D := D) (ci := 0) (v := .int 2) (C := RX0) (T := TX0) (N := 2) hx hb hts iX0_keep_X0 hown hK hP 0 rfl rfl 1 (by decide) (hts _ mX0_keep_1) (fun _ h9 => h9) rfl dX0_keep_1 ?_
  refine lv_aload_n hx hb dX0_keep_4 rfl (lv_at hl 0 rfl) ?_
  refine va_get (D := D) (ci := 0) (v := .ref hr) (C := RX0) (T := TX0) (N := 2) hx hb hts iX0_keep_X0 hown hK hP 0 rfl rfl 0 (by decide) (hts _ mX0_keep_2) (fun _ h9 => h9) rfl dX0_keep_5 ?_
  refine va_alen (v := 6) hx hb hK hP 6 2 rfl rfl rfl dX0_keep_8 ?_
  refine lv_icmp_lt (tgt := 27) hx hb dX0_keep_9 (by decide) (fun _ => ?_) (fun hc => absurd hc (by decide))
  refine lv_aload_n hx hb dX0_keep_27 rfl (lv_at hl 0 rfl) ?_
  refine va_get (D := D) (ci := 0) (v := .int 2) (C := RX0) (T := TX0) (N := 2) hx hb hts iX0_keep_X0 hown hK hP 0 rfl rfl 1 (by decide) (hts _ mX0_keep_1) (fun _ h9 => h9) rfl dX0_keep_28 ?_
  refine lv_if_lt (tgt := 97) hx hb dX0_keep_31 (by decide) (fun hc => absurd hc (by decide)) (fun _ => ?_)
  refine lv_aload_n hx hb dX0_keep_34 rfl (lv_at hl 0 rfl) ?_
  refine va_get (D := D) (ci := 0) (v := .int 2) (C := RX0) (T := TX0) (N := 2) hx hb hts iX0_keep_X0 hown hK hP 0 rfl rfl 1 (by decide) (hts _ mX0_keep_1) (fun _ h9 => h9) rfl dX0_keep_35 ?_
  refine lv_aload_n hx hb dX0_keep_38 rfl (lv_at hl 0 rfl) ?_
  refine va_get (D := D) (ci := 0) (v := .ref hr) (C := RX0) (T := TX0) (N := 2) hx hb hts iX0_keep_X0 hown hK hP 0 rfl rfl 0 (by decide) (hts _ mX0_keep_2) (fun _ h9 => h9) rfl dX0_keep_39 ?_
  refine va_alen (v := 6) hx hb hK hP 6 2 rfl rfl rfl dX0_keep_42 ?_
  refine lv_icmp_ge (tgt := 97) hx hb dX0_keep_43 (by decide) (fun hc => absurd hc (by decide)) (fun _ => ?_)
  refine lv_aload_n hx hb dX0_keep_46 rfl (lv_at hl 0 rfl) ?_
  refine va_get (D := D) (ci := 0) (v := .ref hr) (C := RX0) (T := TX0) (N := 2) hx hb hts iX0_keep_X0 hown hK hP 0 rfl rfl 0 (by decide) (hts _ mX0_keep_2) (fun _ h9 => h9) rfl dX0_keep_47 ?_
  refine lv_aload_n hx hb dX0_keep_50 rfl (lv_at hl 0 rfl) ?_
  refine va_get (D := D) (ci := 0) (v := .int 2) (C := RX0) (T := TX0) (N := 2) hx hb hts iX0_keep_X0 hown hK hP 0 rfl rfl 1 (by decide) (hts _ mX0_keep_1) (fun _ h9 => h9) rfl dX0_keep_51 ?_
  refine va_aldq hx hb hK hP 6 2 rfl rfl (by unfold vp_in; decide) dX0_keep_54 ?_
  refine W.eq (g2 := F0 m 55 ls [.ref (so 2)]) rfl ?_
  refine lv_ifnonnull (tgt := 74) hx hb dX0_keep_55 (by decide) ?_
  refine lv_aload_n hx hb dX0_keep_74 rfl (lv_at hl 0 rfl) ?_
  refine va_get (D := D) (ci := 0) (v := .ref hr) (C := RX0) (T := TX0) (N := 2) hx hb hts iX0_keep_X0 hown hK hP 0 rfl rfl 0 (by decide) (hts _ mX0_keep_2) (fun _ h9 => h9) rfl dX0_keep_75 ?_
  refine lv_aload_n hx hb dX0_keep_78 rfl (lv_at hl 0 rfl) ?_
  refine va_get (D := D) (ci := 0) (v := .int 2) (C := RX0) (T := TX0) (N := 2) hx hb hts iX0_keep_X0 hown hK hP 0 rfl rfl 1 (by decide) (hts _ mX0_keep_1) (fun _ h9 => h9) rfl dX0_keep_79 ?_
  refine va_aldq hx hb hK hP 6 2 rfl rfl (by unfold vp_in; decide) dX0_keep_82 ?_
  refine W.eq (g2 := F0 m 83 ls [.ref (so 2)]) rfl ?_
  refine lv_aload_n hx hb dX0_keep_83 rfl (lv_at hl 1 rfl) ?_
  obtain ⟨q, hq, hqe⟩ := cfh_ex (vs 2).2.2.2.2.1 (vs 2).2.2.2.2.2.1 (vs 2).2.2.2.2.2.2.1 (vs 2).2.2.2.2.2.2.2 a_inputs a_remembered a_asks a_hours a_zeros a_ones a_alarms a_faults
  refine cV_callV (As := [.ref ao]) (rest := []) (wr := List.filterMap (fun i => (((wX0 ho hr 2 ++ wX3 kI kJ ao aa a_inputs a_remembered a_asks a_hours a_zeros a_ones a_alarms a_faults) ++ (svA kS hr so 3 ++ svs kI kJ so sa vs 3)))[i]?) [0, 6, 7, 8, 9, 10, 11, 12, 13, 14, 15, 16]) (wN := ((wX0 ho hr 2 ++ wX3 kI kJ ao aa a_inputs a_remembered a_asks a_hours a_zeros a_ones a_alarms a_faults) ++ (svA kS hr so 3 ++ svs kI kJ so sa (vup vs 2 q) 3))) (ci := 2) (q0 := 17) hE (c_X3_copyFrom l D kI kJ kS (so 2) (sa 2) ao aa (vs 2).1 (vs 2).2.1 (vs 2).2.2.1 (vs 2).2.2.2.1 (vs 2).2.2.2.2.1 (vs 2).2.2.2.2.2.1 (vs 2).2.2.2.2.2.2.1 (vs 2).2.2.2.2.2.2.2 a_inputs a_remembered a_asks a_hours a_zeros a_ones a_alarms a_faults hq) (cwV 1 hts gX0_keep_X3_copyFrom rfl rfl rfl (by decide +kernel) ⟨Nat.le_of_ble_eq_true rfl, Nat.le_of_ble_eq_true rfl⟩) hP hD hS [17, 18, 19, 20, 21, 1, 2, 3, 4, 5] [0, 6, 7, 8, 9, 10, 11, 12, 13, 14, 15, 16] [0, 17, 18, 19, 20, 21, 1, 2, 3, 4, 5, 6, 7, 8, 9, 10, 11, 12, 13, 14, 15, 16] rfl rfl rfl rfl (by decide) rfl rfl rfl rfl rfl hl.1 rfl (Nat.le_of_ble_eq_true rfl) dX0_keep_84 ⟨Nat.le_of_ble_eq_true rfl, Nat.le_of_ble_eq_true rfl⟩ (fun H locs hP hD hS => ?_)
  refine lv_aload_n hx hb dX0_keep_87 rfl (lv_at hl 0 rfl) ?_
  refine lv_dup hx hb dX0_keep_88 rfl ?_
  refine va_get (D := D) (ci := 0) (v := .int 2) (C := RX0) (T := TX0) (N := 2) hx hb hts iX0_keep_X0 hown hK hP 0 rfl rfl 1 (by decide) (hts _ mX0_keep_1) (fun _ h9 => h9) rfl dX0_keep_89 ?_
  refine lv_iconst (v := 1) hx hb dX0_keep_92 (by decide) ?_
  refine lv_iadd hx hb dX0_keep_93 ?_
  refine W.eq (g2 := F0 m 94 ls [.int 3, .ref ho]) rfl ?_
  refine va_put (D := D) (ci := 0) (v := .int 3) (ty := .int) (C := RX0) (T := TX0) (N := 2) hx hb hts iX0_keep_X0 tyX0 tyX0_ok nmX0 hown hK hP hD hS 0 rfl rfl 1 (by decide) (hts _ mX0_keep_1) (fun _ h9 => h9) rfl (by decide +kernel) rfl rfl (Nat.le_of_ble_eq_true rfl) dX0_keep_94 (fun H locs hP hD hS => ?_)
  have hP : va_P D vwCl ((wX0 ho hr 3 ++ wX3 kI kJ ao aa a_inputs a_remembered a_asks a_hours a_zeros a_ones a_alarms a_faults) ++ (svA kS hr so 3 ++ svs kI kJ so sa (vup vs 2 q) 3)) H := hP
  have hD : va_D A ((wX0 ho hr 3 ++ wX3 kI kJ ao aa a_inputs a_remembered a_asks a_hours a_zeros a_ones a_alarms a_faults) ++ (svA kS hr so 3 ++ svs kI kJ so sa (vup vs 2 q) 3)) := hD
  refine W.widen (k := 5) (n := 24) (Nat.le_of_ble_eq_true rfl) (Nat.le_of_ble_eq_true rfl) ?_
  refine hret _ _ _ _ (svA kS hr so 3 ++ svs kI kJ so sa (vup vs 2 q) 3) ⟨3, 3, so, sa, (vup vs 2 q), by decide, by decide, rfl, ?_, rfl⟩ dX0_keep_97 hP hD hS
  exact kp_ok (vs := vs) (vals := vals) 2 hv hqe
set_option maxHeartbeats 4000000 in
set_option maxRecDepth 100000 in
theorem c_X0_keep_3_3 (l : Launch) (D : va_G) (kI kJ kS : ClassId) (ho : Nat) (hr : Nat) (ao : Nat) (aa : Nat → Nat) (a_inputs : Int32) (a_remembered : Int32) (a_asks : Int32) (a_hours : Int32) (a_zeros : Nat → Int64) (a_ones : Nat → Int64) (a_alarms : Nat → Int32) (a_faults : Nat → Int32) (so : Nat → Nat) (sa : Nat → Nat → Nat) (vs : Nat → SV) (vals : Nat → SV) (hv : ∀ j, j < 3 → svEq (vs j) (vals j)) : gV l D (tyL kI kJ kS) yX0_keep wsX0_keep (rmk 2 5 24 32) [.ref ho, .ref ao] ((wX0 ho hr 3 ++ wX3 kI kJ ao aa a_inputs a_remembered a_asks a_hours a_zeros a_ones a_alarms a_faults) ++ (svA kS hr so 3 ++ svs kI kJ so sa vs 3)) (wX0 ho hr 4 ++ wX3 kI kJ ao aa a_inputs a_remembered a_asks a_hours a_zeros a_ones a_alarms a_faults) (TL kI kJ kS hr 4 (vup vals 3 (a_inputs, a_remembered, a_asks, a_hours, a_zeros, a_ones, a_alarms, a_faults))) := by
  refine gV_of (cc := cX0_keep) (maxL := 2) (by decide) rfl (Nat.le_of_ble_eq_true rfl) ?_
  intro p e s m av below meth c A Q ls hE hP hD hS hl hret
  have hE : ent_ p s m av meth c RX0 cX0_keep 2 none wsX0_keep (tyL kI kJ kS) D A true := hE
  obtain ⟨hx, hb, hml, hown, hts, hrt, hlocks, hK, hA, hst⟩ := id hE
  have hl : lv_has ls 2 [(0, .ref ho), (1, .ref ao)] := hl
  refine lv_aload_n hx hb dX0_keep_0 rfl (lv_at hl 0 rfl) ?_
  refine va_get (D := D) (ci := 0) (v := .int 3) (C := RX0) (T := TX0) (N := 2) hx hb hts iX0_keep_X0 hown hK hP 0 rfl rfl 1 (by decide) (hts _ mX0_keep_1) (fun _ h9 => h9) rfl dX0_keep_1 ?_
  refine lv_aload_n hx hb dX0_keep_4 rfl (lv_at hl 0 rfl) ?_
  refine va_get (D := D) (ci := 0) (v := .ref hr) (C := RX0) (T := TX0) (N := 2) hx hb hts iX0_keep_X0 hown hK hP 0 rfl rfl 0 (by decide) (hts _ mX0_keep_2) (fun _ h9 => h9) rfl dX0_keep_5 ?_
  refine va_alen (v := 6) hx hb hK hP 6 2 rfl rfl rfl dX0_keep_8 ?_
  refine lv_icmp_lt (tgt := 27) hx hb dX0_keep_9 (by decide) (fun _ => ?_) (fun hc => absurd hc (by decide))
  refine lv_aload_n hx hb dX0_keep_27 rfl (lv_at hl 0 rfl) ?_
  refine va_get (D := D) (ci := 0) (v := .int 3) (C := RX0) (T := TX0) (N := 2) hx hb hts iX0_keep_X0 hown hK hP 0 rfl rfl 1 (by decide) (hts _ mX0_keep_1) (fun _ h9 => h9) rfl dX0_keep_28 ?_
  refine lv_if_lt (tgt := 97) hx hb dX0_keep_31 (by decide) (fun hc => absurd hc (by decide)) (fun _ => ?_)
  refine lv_aload_n hx hb dX0_keep_34 rfl (lv_at hl 0 rfl) ?_
  refine va_get (D := D) (ci := 0) (v := .int 3) (C := RX0) (T := TX0) (N := 2) hx hb hts iX0_keep_X0 hown hK hP 0 rfl rfl 1 (by decide) (hts _ mX0_keep_1) (fun _ h9 => h9) rfl dX0_keep_35 ?_
  refine lv_aload_n hx hb dX0_keep_38 rfl (lv_at hl 0 rfl) ?_
  refine va_get (D := D) (ci := 0) (v := .ref hr) (C := RX0) (T := TX0) (N := 2) hx hb hts iX0_keep_X0 hown hK hP 0 rfl rfl 0 (by decide) (hts _ mX0_keep_2) (fun _ h9 => h9) rfl dX0_keep_39 ?_
  refine va_alen (v := 6) hx hb hK hP 6 2 rfl rfl rfl dX0_keep_42 ?_
  refine lv_icmp_ge (tgt := 97) hx hb dX0_keep_43 (by decide) (fun hc => absurd hc (by decide)) (fun _ => ?_)
  refine lv_aload_n hx hb dX0_keep_46 rfl (lv_at hl 0 rfl) ?_
  refine va_get (D := D) (ci := 0) (v := .ref hr) (C := RX0) (T := TX0) (N := 2) hx hb hts iX0_keep_X0 hown hK hP 0 rfl rfl 0 (by decide) (hts _ mX0_keep_2) (fun _ h9 => h9) rfl dX0_keep_47 ?_
  refine lv_aload_n hx hb dX0_keep_50 rfl (lv_at hl 0 rfl) ?_
  refine va_get (D := D) (ci := 0) (v := .int 3) (C := RX0) (T := TX0) (N := 2) hx hb hts iX0_keep_X0 hown hK hP 0 rfl rfl 1 (by decide) (hts _ mX0_keep_1) (fun _ h9 => h9) rfl dX0_keep_51 ?_
  refine va_aldq hx hb hK hP 6 2 rfl rfl (by unfold vp_in; decide) dX0_keep_54 ?_
  refine W.eq (g2 := F0 m 55 ls [.null]) rfl ?_
  refine lv_ifnonnullN hx hb dX0_keep_55 ?_
  refine lv_aload_n hx hb dX0_keep_58 rfl (lv_at hl 0 rfl) ?_
  refine va_get (D := D) (ci := 0) (v := .ref hr) (C := RX0) (T := TX0) (N := 2) hx hb hts iX0_keep_X0 hown hK hP 0 rfl rfl 0 (by decide) (hts _ mX0_keep_2) (fun _ h9 => h9) rfl dX0_keep_59 ?_
  refine lv_aload_n hx hb dX0_keep_62 rfl (lv_at hl 0 rfl) ?_
  refine va_get (D := D) (ci := 0) (v := .int 3) (C := RX0) (T := TX0) (N := 2) hx hb hts iX0_keep_X0 hown hK hP 0 rfl rfl 1 (by decide) (hts _ mX0_keep_1) (fun _ h9 => h9) rfl dX0_keep_63 ?_
  refine va_new (ci := 2) (fs := [.int 0, .int 0, .int 0, .int 0, .null, .null, .null, .null]) (C := RX3) (T := TX3) (N := 8) hx hb hts iX0_keep_X3 tyX3 tyX3_ok hown (hts _ mX0_keep_3) (hts _ mX0_keep_4) (hts _ mX0_keep_5) hK hP hD hS hA rfl (fun j hj => by rcases (show j = 0 ∨ j = 1 ∨ j = 2 ∨ j = 3 ∨ j = 4 ∨ j = 5 ∨ j = 6 ∨ j = 7 by omega) with rfl | rfl | rfl | rfl | rfl | rfl | rfl | rfl <;> rfl) (Nat.le_of_ble_eq_true rfl) (Nat.le_of_ble_eq_true rfl) dX0_keep_66 (fun nq H hP hD hS => ?_)
  have hP : va_P D vwCl ((wX0 ho hr 3 ++ wX3 kI kJ ao aa a_inputs a_remembered a_asks a_hours a_zeros a_ones a_alarms a_faults) ++ ((svA kS hr so 3 ++ svs kI kJ so sa vs 3) ++ [(nq, .inr (2, [.int 0, .int 0, .int 0, .int 0, .null, .null, .null, .null]))])) H := hP
  have hD : va_D A ((wX0 ho hr 3 ++ wX3 kI kJ ao aa a_inputs a_remembered a_asks a_hours a_zeros a_ones a_alarms a_faults) ++ ((svA kS hr so 3 ++ svs kI kJ so sa vs 3) ++ [(nq, .inr (2, [.int 0, .int 0, .int 0, .int 0, .null, .null, .null, .null]))])) := hD
  refine lv_dup hx hb dX0_keep_69 rfl ?_
  refine cN_callIN (As := []) (rest := [.ref nq, .int 3, .ref hr]) (wr := ((wX0 ho hr 3 ++ wX3 kI kJ ao aa a_inputs a_remembered a_asks a_hours a_zeros a_ones a_alarms a_faults) ++ (svA kS hr so 3 ++ svs kI kJ so sa vs 3))) (wN := fun na => ((wX0 ho hr 3 ++ wX3 kI kJ ao aa a_inputs a_remembered a_asks a_hours a_zeros a_ones a_alarms a_faults) ++ ((svA kS hr so 3 ++ svs kI kJ so sa vs 3) ++ wX3 kI kJ nq na 0 0 0 0 (fun _ => 0) (fun _ => 0) (fun _ => 0) (fun _ => 0)))) hE (c_X3_init l D kI kJ kS nq) ⟨va_cnB 0 hts ggX0_keep_X3_init rfl rfl rfl (nm_8 (hst rfl).2) (hts _ mX0_keep_5) (by decide +kernel) ⟨Nat.le_of_ble_eq_true rfl, Nat.le_of_ble_eq_true rfl⟩, rfl, hts _ mX0_keep_11⟩ hP hD hS [22] [0, 1, 2, 3, 4, 5, 6, 7, 8, 9, 10, 11, 12, 13, 14, 15, 16, 17, 18, 19, 20, 21] [0, 1, 2, 3, 4, 5, 6, 7, 8, 9, 10, 11, 12, 13, 14, 15, 16, 17, 18, 19, 20, 21, 22, 23, 24, 25, 26] rfl rfl rfl rfl (by decide) (fun _ => rfl) rfl rfl hl.1 rfl (Nat.le_of_ble_eq_true rfl) dX0_keep_70 ⟨Nat.le_of_ble_eq_true rfl, Nat.le_of_ble_eq_true rfl⟩ (fun na H locs hP hD hS => ?_)
  have hP : va_P D vwCl ((wX0 ho hr 3 ++ wX3 kI kJ ao aa a_inputs a_remembered a_asks a_hours a_zeros a_ones a_alarms a_faults) ++ ((svA kS hr so 3 ++ svs kI kJ so sa vs 3) ++ wX3 kI kJ nq na 0 0 0 0 (fun _ => 0) (fun _ => 0) (fun _ => 0) (fun _ => 0))) H := hP
  have hD : va_D A ((wX0 ho hr 3 ++ wX3 kI kJ ao aa a_inputs a_remembered a_asks a_hours a_zeros a_ones a_alarms a_faults) ++ ((svA kS hr so 3 ++ svs kI kJ so sa vs 3) ++ wX3 kI kJ nq na 0 0 0 0 (fun _ => 0) (fun _ => 0) (fun _ => 0) (fun _ => 0))) := hD
  refine va_astq (r := (RX3, TX3, 8)) hx hb hK hP hD hS 6 2 22 2 rfl rfl rfl rfl (by unfold vp_in; decide) dX0_keep_73 (fun H locs hP hD hS => ?_)
  have hP : va_P D vwCl ((wX0 ho hr 3 ++ wX3 kI kJ ao aa a_inputs a_remembered a_asks a_hours a_zeros a_ones a_alarms a_faults) ++ (([(hr, .inl (kS, 6, .inr (.inr (.inr (.inr (va_up (fun k => if k < 3 then some (so k) else none) 3 (some nq)))))))] ++ svs kI kJ so sa vs 3) ++ wX3 kI kJ nq na 0 0 0 0 (fun _ => 0) (fun _ => 0) (fun _ => 0) (fun _ => 0))) H := hP
  have hD : va_D A ((wX0 ho hr 3 ++ wX3 kI kJ ao aa a_inputs a_remembered a_asks a_hours a_zeros a_ones a_alarms a_faults) ++ (([(hr, .inl (kS, 6, .inr (.inr (.inr (.inr (va_up (fun k => if k < 3 then some (so k) else none) 3 (some nq)))))))] ++ svs kI kJ so sa vs 3) ++ wX3 kI kJ nq na 0 0 0 0 (fun _ => 0) (fun _ => 0) (fun _ => 0) (fun _ => 0))) := hD
  rw [ar_snoc so 3 nq] at hP hD
  have hP : va_P D vwCl ((wX0 ho hr 3 ++ wX3 kI kJ ao aa a_inputs a_remembered a_asks a_hours a_zeros a_ones a_alarms a_faults) ++ (svA kS hr (snoc so 3 nq) 4 ++ svs kI kJ (snoc so 3 nq) (snoc sa 3 na) (snoc vs 3 zSV) 4)) H := hP
  have hD : va_D A ((wX0 ho hr 3 ++ wX3 kI kJ ao aa a_inputs a_remembered a_asks a_hours a_zeros a_ones a_alarms a_faults) ++ (svA kS hr (snoc so 3 nq) 4 ++ svs kI kJ (snoc so 3 nq) (snoc sa 3 na) (snoc vs 3 zSV) 4)) := hD
  refine lv_aload_n hx hb dX0_keep_74 rfl (lv_at hl 0 rfl) ?_
  refine va_get (D := D) (ci := 0) (v := .ref hr) (C := RX0) (T := TX0) (N := 2) hx hb hts iX0_keep_X0 hown hK hP 0 rfl rfl 0 (by decide) (hts _ mX0_keep_2) (fun _ h9 => h9) rfl dX0_keep_75 ?_
  refine lv_aload_n hx hb dX0_keep_78 rfl (lv_at hl 0 rfl) ?_
  refine va_get (D := D) (ci := 0) (v := .int 3) (C := RX0) (T := TX0) (N := 2) hx hb hts iX0_keep_X0 hown hK hP 0 rfl rfl 1 (by decide) (hts _ mX0_keep_1) (fun _ h9 => h9) rfl dX0_keep_79 ?_
  refine va_aldq hx hb hK hP 6 2 rfl rfl (by unfold vp_in; decide) dX0_keep_82 ?_
  refine W.eq (g2 := F0 m 83 ls [.ref ((snoc so 3 nq) 3)]) rfl ?_
  refine lv_aload_n hx hb dX0_keep_83 rfl (lv_at hl 1 rfl) ?_
  obtain ⟨q, hq, hqe⟩ := cfh_ex ((snoc vs 3 zSV) 3).2.2.2.2.1 ((snoc vs 3 zSV) 3).2.2.2.2.2.1 ((snoc vs 3 zSV) 3).2.2.2.2.2.2.1 ((snoc vs 3 zSV) 3).2.2.2.2.2.2.2 a_inputs a_remembered a_asks a_hours a_zeros a_ones a_alarms a_faults
  refine cV_callV (As := [.ref ao]) (rest := []) (wr := List.filterMap (fun i => (((wX0 ho hr 3 ++ wX3 kI kJ ao aa a_inputs a_remembered a_asks a_hours a_zeros a_ones a_alarms a_faults) ++ (svA kS hr (snoc so 3 nq) 4 ++ svs kI kJ (snoc so 3 nq) (snoc sa 3 na) (snoc vs 3 zSV) 4)))[i]?) [0, 6, 7, 8, 9, 10, 11, 12, 13, 14, 15, 16, 17, 18, 19, 20, 21]) (wN := ((wX0 ho hr 3 ++ wX3 kI kJ ao aa a_inputs a_remembered a_asks a_hours a_zeros a_ones a_alarms a_faults) ++ (svA kS hr (snoc so 3 nq) 4 ++ svs kI kJ (snoc so 3 nq) (snoc sa 3 na) (vup (snoc vs 3 zSV) 3 q) 4))) (ci := 2) (q0 := 22) hE (c_X3_copyFrom l D kI kJ kS ((snoc so 3 nq) 3) ((snoc sa 3 na) 3) ao aa ((snoc vs 3 zSV) 3).1 ((snoc vs 3 zSV) 3).2.1 ((snoc vs 3 zSV) 3).2.2.1 ((snoc vs 3 zSV) 3).2.2.2.1 ((snoc vs 3 zSV) 3).2.2.2.2.1 ((snoc vs 3 zSV) 3).2.2.2.2.2.1 ((snoc vs 3 zSV) 3).2.2.2.2.2.2.1 ((snoc vs 3 zSV) 3).2.2.2.2.2.2.2 a_inputs a_remembered a_asks a_hours a_zeros a_ones a_alarms a_faults hq) (cwV 1 hts gX0_keep_X3_copyFrom rfl rfl rfl (by decide +kernel) ⟨Nat.le_of_ble_eq_true rfl, Nat.le_of_ble_eq_true rfl⟩) hP hD hS [22, 23, 24, 25, 26, 1, 2, 3, 4, 5] [0, 6, 7, 8, 9, 10, 11, 12, 13, 14, 15, 16, 17, 18, 19, 20, 21] [0, 22, 23, 24, 25, 26, 1, 2, 3, 4, 5, 6, 7, 8, 9, 10, 11, 12, 13, 14, 15, 16, 17, 18, 19, 20, 21] rfl rfl rfl rfl (by decide) rfl rfl rfl rfl rfl hl.1 rfl (Nat.le_of_ble_eq_true rfl) dX0_keep_84 ⟨Nat.le_of_ble_eq_true rfl, Nat.le_of_ble_eq_true rfl⟩ (fun H locs hP hD hS => ?_)
  refine lv_aload_n hx hb dX0_keep_87 rfl (lv_at hl 0 rfl) ?_
  refine lv_dup hx hb dX0_keep_88 rfl ?_
  refine va_get (D := D) (ci := 0) (v := .int 3) (C := RX0) (T := TX0) (N := 2) hx hb hts iX0_keep_X0 hown hK hP 0 rfl rfl 1 (by decide) (hts _ mX0_keep_1) (fun _ h9 => h9) rfl dX0_keep_89 ?_
  refine lv_iconst (v := 1) hx hb dX0_keep_92 (by decide) ?_
  refine lv_iadd hx hb dX0_keep_93 ?_
  refine W.eq (g2 := F0 m 94 ls [.int 4, .ref ho]) rfl ?_
  refine va_put (D := D) (ci := 0) (v := .int 4) (ty := .int) (C := RX0) (T := TX0) (N := 2) hx hb hts iX0_keep_X0 tyX0 tyX0_ok nmX0 hown hK hP hD hS 0 rfl rfl 1 (by decide) (hts _ mX0_keep_1) (fun _ h9 => h9) rfl (by decide +kernel) rfl rfl (Nat.le_of_ble_eq_true rfl) dX0_keep_94 (fun H locs hP hD hS => ?_)
  have hP : va_P D vwCl ((wX0 ho hr 4 ++ wX3 kI kJ ao aa a_inputs a_remembered a_asks a_hours a_zeros a_ones a_alarms a_faults) ++ (svA kS hr (snoc so 3 nq) 4 ++ svs kI kJ (snoc so 3 nq) (snoc sa 3 na) (vup (snoc vs 3 zSV) 3 q) 4)) H := hP
  have hD : va_D A ((wX0 ho hr 4 ++ wX3 kI kJ ao aa a_inputs a_remembered a_asks a_hours a_zeros a_ones a_alarms a_faults) ++ (svA kS hr (snoc so 3 nq) 4 ++ svs kI kJ (snoc so 3 nq) (snoc sa 3 na) (vup (snoc vs 3 zSV) 3 q) 4)) := hD
  refine W.widen (k := 5) (n := 24) (Nat.le_of_ble_eq_true rfl) (Nat.le_of_ble_eq_true rfl) ?_
  refine hret _ _ _ _ (svA kS hr (snoc so 3 nq) 4 ++ svs kI kJ (snoc so 3 nq) (snoc sa 3 na) (vup (snoc vs 3 zSV) 3 q) 4) ⟨4, 4, (snoc so 3 nq), (snoc sa 3 na), (vup (snoc vs 3 zSV) 3 q), by decide, by decide, rfl, ?_, rfl⟩ dX0_keep_97 hP hD hS
  exact kpn_ok (vs := vs) (vals := vals) 3 hv hqe
set_option maxHeartbeats 4000000 in
set_option maxRecDepth 100000 in
theorem c_X0_keep_4_0 (l : Launch) (D : va_G) (kI kJ kS : ClassId) (ho : Nat) (hr : Nat) (ao : Nat) (aa : Nat → Nat) (a_inputs : Int32) (a_remembered : Int32) (a_asks : Int32) (a_hours : Int32) (a_zeros : Nat → Int64) (a_ones : Nat → Int64) (a_alarms : Nat → Int32) (a_faults : Nat → Int32) (so : Nat → Nat) (sa : Nat → Nat → Nat) (vs : Nat → SV) (vals : Nat → SV) (hv : ∀ j, j < 0 → svEq (vs j) (vals j)) : gV l D (tyL kI kJ kS) yX0_keep wsX0_keep (rmk 2 5 24 32) [.ref ho, .ref ao] ((wX0 ho hr 0 ++ wX3 kI kJ ao aa a_inputs a_remembered a_asks a_hours a_zeros a_ones a_alarms a_faults) ++ (svA kS hr so 4 ++ svs kI kJ so sa vs 4)) (wX0 ho hr 1 ++ wX3 kI kJ ao aa a_inputs a_remembered a_asks a_hours a_zeros a_ones a_alarms a_faults) (TL kI kJ kS hr 1 (vup vals 0 (a_inputs, a_remembered, a_asks, a_hours, a_zeros, a_ones, a_alarms, a_faults))) := by
  refine gV_of (cc := cX0_keep) (maxL := 2) (by decide) rfl (Nat.le_of_ble_eq_true rfl) ?_
  intro p e s m av below meth c A Q ls hE hP hD hS hl hret
  have hE : ent_ p s m av meth c RX0 cX0_keep 2 none wsX0_keep (tyL kI kJ kS) D A true := hE
  obtain ⟨hx, hb, hml, hown, hts, hrt, hlocks, hK, hA, hst⟩ := id hE
  have hl : lv_has ls 2 [(0, .ref ho), (1, .ref ao)] := hl
  refine lv_aload_n hx hb dX0_keep_0 rfl (lv_at hl 0 rfl) ?_
  refine va_get (D := D) (ci := 0) (v := .int 0) (C := RX0) (T := TX0) (N := 2) hx hb hts iX0_keep_X0 hown hK hP 0 rfl rfl 1 (by decide) (hts _ mX0_keep_1) (fun _ h9 => h9) rfl dX0_keep_1 ?_
  refine lv_aload_n hx hb dX0_keep_4 rfl (lv_at hl 0 rfl) ?_
  refine va_get (D := D) (ci := 0) (v := .ref hr) (C := RX0) (T := TX0) (N := 2) hx hb hts iX0_keep_X0 hown hK hP 0 rfl rfl 0 (by decide) (hts _ mX0_keep_2) (fun _ h9 => h9) rfl dX0_keep_5 ?_
  refine va_alen (v := 6) hx hb hK hP 6 2 rfl rfl rfl dX0_keep_8 ?_
  refine lv_icmp_lt (tgt := 27) hx hb dX0_keep_9 (by decide) (fun _ => ?_) (fun hc => absurd hc (by decide))
  refine lv_aload_n hx hb dX0_keep_27 rfl (lv_at hl 0 rfl) ?_
  refine va_get (D := D) (ci := 0) (v := .int 0) (C := RX0) (T := TX0) (N := 2) hx hb hts iX0_keep_X0 hown hK hP 0 rfl rfl 1 (by decide) (hts _ mX0_keep_1) (fun _ h9 => h9) rfl dX0_keep_28 ?_
  refine lv_if_lt (tgt := 97) hx hb dX0_keep_31 (by decide) (fun hc => absurd hc (by decide)) (fun _ => ?_)
  refine lv_aload_n hx hb dX0_keep_34 rfl (lv_at hl 0 rfl) ?_
  refine va_get (D := D) (ci := 0) (v := .int 0) (C := RX0) (T := TX0) (N := 2) hx hb hts iX0_keep_X0 hown hK hP 0 rfl rfl 1 (by decide) (hts _ mX0_keep_1) (fun _ h9 => h9) rfl dX0_keep_35 ?_
  refine lv_aload_n hx hb dX0_keep_38 rfl (lv_at hl 0 rfl) ?_
  refine va_get (D := D) (ci := 0) (v := .ref hr) (C := RX0) (T := TX0) (N := 2) hx hb hts iX0_keep_X0 hown hK hP 0 rfl rfl 0 (by decide) (hts _ mX0_keep_2) (fun _ h9 => h9) rfl dX0_keep_39 ?_
  refine va_alen (v := 6) hx hb hK hP 6 2 rfl rfl rfl dX0_keep_42 ?_
  refine lv_icmp_ge (tgt := 97) hx hb dX0_keep_43 (by decide) (fun hc => absurd hc (by decide)) (fun _ => ?_)
  refine lv_aload_n hx hb dX0_keep_46 rfl (lv_at hl 0 rfl) ?_
  refine va_get (D := D) (ci := 0) (v := .ref hr) (C := RX0) (T := TX0) (N := 2) hx hb hts iX0_keep_X0 hown hK hP 0 rfl rfl 0 (by decide) (hts _ mX0_keep_2) (fun _ h9 => h9) rfl dX0_keep_47 ?_
  refine lv_aload_n hx hb dX0_keep_50 rfl (lv_at hl 0 rfl) ?_
  refine va_get (D := D) (ci := 0) (v := .int 0) (C := RX0) (T := TX0) (N := 2) hx hb hts iX0_keep_X0 hown hK hP 0 rfl rfl 1 (by decide) (hts _ mX0_keep_1) (fun _ h9 => h9) rfl dX0_keep_51 ?_
  refine va_aldq hx hb hK hP 6 2 rfl rfl (by unfold vp_in; decide) dX0_keep_54 ?_
  refine W.eq (g2 := F0 m 55 ls [.ref (so 0)]) rfl ?_
  refine lv_ifnonnull (tgt := 74) hx hb dX0_keep_55 (by decide) ?_
  refine lv_aload_n hx hb dX0_keep_74 rfl (lv_at hl 0 rfl) ?_
  refine va_get (D := D) (ci := 0) (v := .ref hr) (C := RX0) (T := TX0) (N := 2) hx hb hts iX0_keep_X0 hown hK hP 0 rfl rfl 0 (by decide) (hts _ mX0_keep_2) (fun _ h9 => h9) rfl dX0_keep_75 ?_
  refine lv_aload_n hx hb dX0_keep_78 rfl (lv_at hl 0 rfl) ?_
  refine va_get (D := D) (ci := 0) (v := .int 0) (C := RX0) (T := TX0) (N := 2) hx hb hts iX0_keep_X0 hown hK hP 0 rfl rfl 1 (by decide) (hts _ mX0_keep_1) (fun _ h9 => h9) rfl dX0_keep_79 ?_
  refine va_aldq hx hb hK hP 6 2 rfl rfl (by unfold vp_in; decide) dX0_keep_82 ?_
  refine W.eq (g2 := F0 m 83 ls [.ref (so 0)]) rfl ?_
  refine lv_aload_n hx hb dX0_keep_83 rfl (lv_at hl 1 rfl) ?_
  obtain ⟨q, hq, hqe⟩ := cfh_ex (vs 0).2.2.2.2.1 (vs 0).2.2.2.2.2.1 (vs 0).2.2.2.2.2.2.1 (vs 0).2.2.2.2.2.2.2 a_inputs a_remembered a_asks a_hours a_zeros a_ones a_alarms a_faults
  refine cV_callV (As := [.ref ao]) (rest := []) (wr := List.filterMap (fun i => (((wX0 ho hr 0 ++ wX3 kI kJ ao aa a_inputs a_remembered a_asks a_hours a_zeros a_ones a_alarms a_faults) ++ (svA kS hr so 4 ++ svs kI kJ so sa vs 4)))[i]?) [0, 6, 12, 13, 14, 15, 16, 17, 18, 19, 20, 21, 22, 23, 24, 25, 26]) (wN := ((wX0 ho hr 0 ++ wX3 kI kJ ao aa a_inputs a_remembered a_asks a_hours a_zeros a_ones a_alarms a_faults) ++ (svA kS hr so 4 ++ svs kI kJ so sa (vup vs 0 q) 4))) (ci := 2) (q0 := 7) hE (c_X3_copyFrom l D kI kJ kS (so 0) (sa 0) ao aa (vs 0).1 (vs 0).2.1 (vs 0).2.2.1 (vs 0).2.2.2.1 (vs 0).2.2.2.2.1 (vs 0).2.2.2.2.2.1 (vs 0).2.2.2.2.2.2.1 (vs 0).2.2.2.2.2.2.2 a_inputs a_remembered a_asks a_hours a_zeros a_ones a_alarms a_faults hq) (cwV 1 hts gX0_keep_X3_copyFrom rfl rfl rfl (by decide +kernel) ⟨Nat.le_of_ble_eq_true rfl, Nat.le_of_ble_eq_true rfl⟩) hP hD hS [7, 8, 9, 10, 11, 1, 2, 3, 4, 5] [0, 6, 12, 13, 14, 15, 16, 17, 18, 19, 20, 21, 22, 23, 24, 25, 26] [0, 22, 23, 24, 25, 26, 1, 17, 18, 19, 20, 21, 2, 3, 4, 5, 6, 7, 8, 9, 10, 11, 12, 13, 14, 15, 16] rfl rfl rfl rfl (by decide) rfl rfl rfl rfl rfl hl.1 rfl (Nat.le_of_ble_eq_true rfl) dX0_keep_84 ⟨Nat.le_of_ble_eq_true rfl, Nat.le_of_ble_eq_true rfl⟩ (fun H locs hP hD hS => ?_)
  refine lv_aload_n hx hb dX0_keep_87 rfl (lv_at hl 0 rfl) ?_
  refine lv_dup hx hb dX0_keep_88 rfl ?_
  refine va_get (D := D) (ci := 0) (v := .int 0) (C := RX0) (T := TX0) (N := 2) hx hb hts iX0_keep_X0 hown hK hP 0 rfl rfl 1 (by decide) (hts _ mX0_keep_1) (fun _ h9 => h9) rfl dX0_keep_89 ?_
  refine lv_iconst (v := 1) hx hb dX0_keep_92 (by decide) ?_
  refine lv_iadd hx hb dX0_keep_93 ?_
  refine W.eq (g2 := F0 m 94 ls [.int 1, .ref ho]) rfl ?_
  refine va_put (D := D) (ci := 0) (v := .int 1) (ty := .int) (C := RX0) (T := TX0) (N := 2) hx hb hts iX0_keep_X0 tyX0 tyX0_ok nmX0 hown hK hP hD hS 0 rfl rfl 1 (by decide) (hts _ mX0_keep_1) (fun _ h9 => h9) rfl (by decide +kernel) rfl rfl (Nat.le_of_ble_eq_true rfl) dX0_keep_94 (fun H locs hP hD hS => ?_)
  have hP : va_P D vwCl ((wX0 ho hr 1 ++ wX3 kI kJ ao aa a_inputs a_remembered a_asks a_hours a_zeros a_ones a_alarms a_faults) ++ (svA kS hr so 4 ++ svs kI kJ so sa (vup vs 0 q) 4)) H := hP
  have hD : va_D A ((wX0 ho hr 1 ++ wX3 kI kJ ao aa a_inputs a_remembered a_asks a_hours a_zeros a_ones a_alarms a_faults) ++ (svA kS hr so 4 ++ svs kI kJ so sa (vup vs 0 q) 4)) := hD
  refine W.widen (k := 5) (n := 24) (Nat.le_of_ble_eq_true rfl) (Nat.le_of_ble_eq_true rfl) ?_
  refine hret _ _ _ _ (svA kS hr so 4 ++ svs kI kJ so sa (vup vs 0 q) 4) ⟨4, 1, so, sa, (vup vs 0 q), by decide, by decide, rfl, ?_, rfl⟩ dX0_keep_97 hP hD hS
  exact kp_ok (vs := vs) (vals := vals) 0 hv hqe
set_option maxHeartbeats 4000000 in
set_option maxRecDepth 100000 in
theorem c_X0_keep_4_1 (l : Launch) (D : va_G) (kI kJ kS : ClassId) (ho : Nat) (hr : Nat) (ao : Nat) (aa : Nat → Nat) (a_inputs : Int32) (a_remembered : Int32) (a_asks : Int32) (a_hours : Int32) (a_zeros : Nat → Int64) (a_ones : Nat → Int64) (a_alarms : Nat → Int32) (a_faults : Nat → Int32) (so : Nat → Nat) (sa : Nat → Nat → Nat) (vs : Nat → SV) (vals : Nat → SV) (hv : ∀ j, j < 1 → svEq (vs j) (vals j)) : gV l D (tyL kI kJ kS) yX0_keep wsX0_keep (rmk 2 5 24 32) [.ref ho, .ref ao] ((wX0 ho hr 1 ++ wX3 kI kJ ao aa a_inputs a_remembered a_asks a_hours a_zeros a_ones a_alarms a_faults) ++ (svA kS hr so 4 ++ svs kI kJ so sa vs 4)) (wX0 ho hr 2 ++ wX3 kI kJ ao aa a_inputs a_remembered a_asks a_hours a_zeros a_ones a_alarms a_faults) (TL kI kJ kS hr 2 (vup vals 1 (a_inputs, a_remembered, a_asks, a_hours, a_zeros, a_ones, a_alarms, a_faults))) := by
  refine gV_of (cc := cX0_keep) (maxL := 2) (by decide) rfl (Nat.le_of_ble_eq_true rfl) ?_
  intro p e s m av below meth c A Q ls hE hP hD hS hl hret
  have hE : ent_ p s m av meth c RX0 cX0_keep 2 none wsX0_keep (tyL kI kJ kS) D A true := hE
  obtain ⟨hx, hb, hml, hown, hts, hrt, hlocks, hK, hA, hst⟩ := id hE
  have hl : lv_has ls 2 [(0, .ref ho), (1, .ref ao)] := hl
  refine lv_aload_n hx hb dX0_keep_0 rfl (lv_at hl 0 rfl) ?_
  refine va_get (D := D) (ci := 0) (v := .int 1) (C := RX0) (T := TX0) (N := 2) hx hb hts iX0_keep_X0 hown hK hP 0 rfl rfl 1 (by decide) (hts _ mX0_keep_1) (fun _ h9 => h9) rfl dX0_keep_1 ?_
  refine lv_aload_n hx hb dX0_keep_4 rfl (lv_at hl 0 rfl) ?_
  refine va_get (D := D) (ci := 0) (v := .ref hr) (C := RX0) (T := TX0) (N := 2) hx hb hts iX0_keep_X0 hown hK hP 0 rfl rfl 0 (by decide) (hts _ mX0_keep_2) (fun _ h9 => h9) rfl dX0_keep_5 ?_
  refine va_alen (v := 6) hx hb hK hP 6 2 rfl rfl rfl dX0_keep_8 ?_
  refine lv_icmp_lt (tgt := 27) hx hb dX0_keep_9 (by decide) (fun _ => ?_) (fun hc => absurd hc (by decide))
  refine lv_aload_n hx hb dX0_keep_27 rfl (lv_at hl 0 rfl) ?_
  refine va_get (D := D) (ci := 0) (v := .int 1) (C := RX0) (T := TX0) (N := 2) hx hb hts iX0_keep_X0 hown hK hP 0 rfl rfl 1 (by decide) (hts _ mX0_keep_1) (fun _ h9 => h9) rfl dX0_keep_28 ?_
  refine lv_if_lt (tgt := 97) hx hb dX0_keep_31 (by decide) (fun hc => absurd hc (by decide)) (fun _ => ?_)
  refine lv_aload_n hx hb dX0_keep_34 rfl (lv_at hl 0 rfl) ?_
  refine va_get (D := D) (ci := 0) (v := .int 1) (C := RX0) (T := TX0) (N := 2) hx hb hts iX0_keep_X0 hown hK hP 0 rfl rfl 1 (by decide) (hts _ mX0_keep_1) (fun _ h9 => h9) rfl dX0_keep_35 ?_
  refine lv_aload_n hx hb dX0_keep_38 rfl (lv_at hl 0 rfl) ?_
  refine va_get (D := D) (ci := 0) (v := .ref hr) (C := RX0) (T := TX0) (N := 2) hx hb hts iX0_keep_X0 hown hK hP 0 rfl rfl 0 (by decide) (hts _ mX0_keep_2) (fun _ h9 => h9) rfl dX0_keep_39 ?_
  refine va_alen (v := 6) hx hb hK hP 6 2 rfl rfl rfl dX0_keep_42 ?_
  refine lv_icmp_ge (tgt := 97) hx hb dX0_keep_43 (by decide) (fun hc => absurd hc (by decide)) (fun _ => ?_)
  refine lv_aload_n hx hb dX0_keep_46 rfl (lv_at hl 0 rfl) ?_
  refine va_get (D := D) (ci := 0) (v := .ref hr) (C := RX0) (T := TX0) (N := 2) hx hb hts iX0_keep_X0 hown hK hP 0 rfl rfl 0 (by decide) (hts _ mX0_keep_2) (fun _ h9 => h9) rfl dX0_keep_47 ?_
  refine lv_aload_n hx hb dX0_keep_50 rfl (lv_at hl 0 rfl) ?_
  refine va_get (D := D) (ci := 0) (v := .int 1) (C := RX0) (T := TX0) (N := 2) hx hb hts iX0_keep_X0 hown hK hP 0 rfl rfl 1 (by decide) (hts _ mX0_keep_1) (fun _ h9 => h9) rfl dX0_keep_51 ?_
  refine va_aldq hx hb hK hP 6 2 rfl rfl (by unfold vp_in; decide) dX0_keep_54 ?_
  refine W.eq (g2 := F0 m 55 ls [.ref (so 1)]) rfl ?_
  refine lv_ifnonnull (tgt := 74) hx hb dX0_keep_55 (by decide) ?_
  refine lv_aload_n hx hb dX0_keep_74 rfl (lv_at hl 0 rfl) ?_
  refine va_get (D := D) (ci := 0) (v := .ref hr) (C := RX0) (T := TX0) (N := 2) hx hb hts iX0_keep_X0 hown hK hP 0 rfl rfl 0 (by decide) (hts _ mX0_keep_2) (fun _ h9 => h9) rfl dX0_keep_75 ?_
  refine lv_aload_n hx hb dX0_keep_78 rfl (lv_at hl 0 rfl) ?_
  refine va_get (D := D) (ci := 0) (v := .int 1) (C := RX0) (T := TX0) (N := 2) hx hb hts iX0_keep_X0 hown hK hP 0 rfl rfl 1 (by decide) (hts _ mX0_keep_1) (fun _ h9 => h9) rfl dX0_keep_79 ?_
  refine va_aldq hx hb hK hP 6 2 rfl rfl (by unfold vp_in; decide) dX0_keep_82 ?_
  refine W.eq (g2 := F0 m 83 ls [.ref (so 1)]) rfl ?_
  refine lv_aload_n hx hb dX0_keep_83 rfl (lv_at hl 1 rfl) ?_
  obtain ⟨q, hq, hqe⟩ := cfh_ex (vs 1).2.2.2.2.1 (vs 1).2.2.2.2.2.1 (vs 1).2.2.2.2.2.2.1 (vs 1).2.2.2.2.2.2.2 a_inputs a_remembered a_asks a_hours a_zeros a_ones a_alarms a_faults
  refine cV_callV (As := [.ref ao]) (rest := []) (wr := List.filterMap (fun i => (((wX0 ho hr 1 ++ wX3 kI kJ ao aa a_inputs a_remembered a_asks a_hours a_zeros a_ones a_alarms a_faults) ++ (svA kS hr so 4 ++ svs kI kJ so sa vs 4)))[i]?) [0, 6, 7, 8, 9, 10, 11, 17, 18, 19, 20, 21, 22, 23, 24, 25, 26]) (wN := ((wX0 ho hr 1 ++ wX3 kI kJ ao aa a_inputs a_remembered a_asks a_hours a_zeros a_ones a_alarms a_faults) ++ (svA kS hr so 4 ++ svs kI kJ so sa (vup vs 1 q) 4))) (ci := 2) (q0 := 12) hE (c_X3_copyFrom l D kI kJ kS (so 1) (sa 1) ao aa (vs 1).1 (vs 1).2.1 (vs 1).2.2.1 (vs 1).2.2.2.1 (vs 1).2.2.2.2.1 (vs 1).2.2.2.2.2.1 (vs 1).2.2.2.2.2.2.1 (vs 1).2.2.2.2.2.2.2 a_inputs a_remembered a_asks a_hours a_zeros a_ones a_alarms a_faults hq) (cwV 1 hts gX0_keep_X3_copyFrom rfl rfl rfl (by decide +kernel) ⟨Nat.le_of_ble_eq_true rfl, Nat.le_of_ble_eq_true rfl⟩) hP hD hS [12, 13, 14, 15, 16, 1, 2, 3, 4, 5] [0, 6, 7, 8, 9, 10, 11, 17, 18, 19, 20, 21, 22, 23, 24, 25, 26] [0, 22, 23, 24, 25, 26, 1, 2, 3, 4, 5, 6, 17, 18, 19, 20, 21, 7, 8, 9, 10, 11, 12, 13, 14, 15, 16] rfl rfl rfl rfl (by decide) rfl rfl rfl rfl rfl hl.1 rfl (Nat.le_of_ble_eq_true rfl) dX0_keep_84 ⟨Nat.le_of_ble_eq_true rfl, Nat.le_of_ble_eq_true rfl⟩ (fun H locs hP hD hS => ?_)
  refine lv_aload_n hx hb dX0_keep_87 rfl (lv_at hl 0 rfl) ?_
  refine lv_dup hx hb dX0_keep_88 rfl ?_
  refine va_get (D := D) (ci := 0) (v := .int 1) (C := RX0) (T := TX0) (N := 2) hx hb hts iX0_keep_X0 hown hK hP 0 rfl rfl 1 (by decide) (hts _ mX0_keep_1) (fun _ h9 => h9) rfl dX0_keep_89 ?_
  refine lv_iconst (v := 1) hx hb dX0_keep_92 (by decide) ?_
  refine lv_iadd hx hb dX0_keep_93 ?_
  refine W.eq (g2 := F0 m 94 ls [.int 2, .ref ho]) rfl ?_
  refine va_put (D := D) (ci := 0) (v := .int 2) (ty := .int) (C := RX0) (T := TX0) (N := 2) hx hb hts iX0_keep_X0 tyX0 tyX0_ok nmX0 hown hK hP hD hS 0 rfl rfl 1 (by decide) (hts _ mX0_keep_1) (fun _ h9 => h9) rfl (by decide +kernel) rfl rfl (Nat.le_of_ble_eq_true rfl) dX0_keep_94 (fun H locs hP hD hS => ?_)
  have hP : va_P D vwCl ((wX0 ho hr 2 ++ wX3 kI kJ ao aa a_inputs a_remembered a_asks a_hours a_zeros a_ones a_alarms a_faults) ++ (svA kS hr so 4 ++ svs kI kJ so sa (vup vs 1 q) 4)) H := hP
  have hD : va_D A ((wX0 ho hr 2 ++ wX3 kI kJ ao aa a_inputs a_remembered a_asks a_hours a_zeros a_ones a_alarms a_faults) ++ (svA kS hr so 4 ++ svs kI kJ so sa (vup vs 1 q) 4)) := hD
  refine W.widen (k := 5) (n := 24) (Nat.le_of_ble_eq_true rfl) (Nat.le_of_ble_eq_true rfl) ?_
  refine hret _ _ _ _ (svA kS hr so 4 ++ svs kI kJ so sa (vup vs 1 q) 4) ⟨4, 2, so, sa, (vup vs 1 q), by decide, by decide, rfl, ?_, rfl⟩ dX0_keep_97 hP hD hS
  exact kp_ok (vs := vs) (vals := vals) 1 hv hqe
set_option maxHeartbeats 4000000 in
set_option maxRecDepth 100000 in
theorem c_X0_keep_4_2 (l : Launch) (D : va_G) (kI kJ kS : ClassId) (ho : Nat) (hr : Nat) (ao : Nat) (aa : Nat → Nat) (a_inputs : Int32) (a_remembered : Int32) (a_asks : Int32) (a_hours : Int32) (a_zeros : Nat → Int64) (a_ones : Nat → Int64) (a_alarms : Nat → Int32) (a_faults : Nat → Int32) (so : Nat → Nat) (sa : Nat → Nat → Nat) (vs : Nat → SV) (vals : Nat → SV) (hv : ∀ j, j < 2 → svEq (vs j) (vals j)) : gV l D (tyL kI kJ kS) yX0_keep wsX0_keep (rmk 2 5 24 32) [.ref ho, .ref ao] ((wX0 ho hr 2 ++ wX3 kI kJ ao aa a_inputs a_remembered a_asks a_hours a_zeros a_ones a_alarms a_faults) ++ (svA kS hr so 4 ++ svs kI kJ so sa vs 4)) (wX0 ho hr 3 ++ wX3 kI kJ ao aa a_inputs a_remembered a_asks a_hours a_zeros a_ones a_alarms a_faults) (TL kI kJ kS hr 3 (vup vals 2 (a_inputs, a_remembered, a_asks, a_hours, a_zeros, a_ones, a_alarms, a_faults))) := by
  refine gV_of (cc := cX0_keep) (maxL := 2) (by decide) rfl (Nat.le_of_ble_eq_true rfl) ?_
  intro p e s m av below meth c A Q ls hE hP hD hS hl hret
  have hE : ent_ p s m av meth c RX0 cX0_keep 2 none wsX0_keep (tyL kI kJ kS) D A true := hE
  obtain ⟨hx, hb, hml, hown, hts, hrt, hlocks, hK, hA, hst⟩ := id hE
  have hl : lv_has ls 2 [(0, .ref ho), (1, .ref ao)] := hl
  refine lv_aload_n hx hb dX0_keep_0 rfl (lv_at hl 0 rfl) ?_
  refine va_get (D := D) (ci := 0) (v := .int 2) (C := RX0) (T := TX0) (N := 2) hx hb hts iX0_keep_X0 hown hK hP 0 rfl rfl 1 (by decide) (hts _ mX0_keep_1) (fun _ h9 => h9) rfl dX0_keep_1 ?_
  refine lv_aload_n hx hb dX0_keep_4 rfl (lv_at hl 0 rfl) ?_
  refine va_get (D := D) (ci := 0) (v := .ref hr) (C := RX0) (T := TX0) (N := 2) hx hb hts iX0_keep_X0 hown hK hP 0 rfl rfl 0 (by decide) (hts _ mX0_keep_2) (fun _ h9 => h9) rfl dX0_keep_5 ?_
  refine va_alen (v := 6) hx hb hK hP 6 2 rfl rfl rfl dX0_keep_8 ?_
  refine lv_icmp_lt (tgt := 27) hx hb dX0_keep_9 (by decide) (fun _ => ?_) (fun hc => absurd hc (by decide))
  refine lv_aload_n hx hb dX0_keep_27 rfl (lv_at hl 0 rfl) ?_
  refine va_get (D := D) (ci := 0) (v := .int 2) (C := RX0) (T := TX0) (N := 2) hx hb hts iX0_keep_X0 hown hK hP 0 rfl rfl 1 (by decide) (hts _ mX0_keep_1) (fun _ h9 => h9) rfl dX0_keep_28 ?_
  refine lv_if_lt (tgt := 97) hx hb dX0_keep_31 (by decide) (fun hc => absurd hc (by decide)) (fun _ => ?_)
  refine lv_aload_n hx hb dX0_keep_34 rfl (lv_at hl 0 rfl) ?_
  refine va_get (D := D) (ci := 0) (v := .int 2) (C := RX0) (T := TX0) (N := 2) hx hb hts iX0_keep_X0 hown hK hP 0 rfl rfl 1 (by decide) (hts _ mX0_keep_1) (fun _ h9 => h9) rfl dX0_keep_35 ?_
  refine lv_aload_n hx hb dX0_keep_38 rfl (lv_at hl 0 rfl) ?_
  refine va_get (D := D) (ci := 0) (v := .ref hr) (C := RX0) (T := TX0) (N := 2) hx hb hts iX0_keep_X0 hown hK hP 0 rfl rfl 0 (by decide) (hts _ mX0_keep_2) (fun _ h9 => h9) rfl dX0_keep_39 ?_
  refine va_alen (v := 6) hx hb hK hP 6 2 rfl rfl rfl dX0_keep_42 ?_
  refine lv_icmp_ge (tgt := 97) hx hb dX0_keep_43 (by decide) (fun hc => absurd hc (by decide)) (fun _ => ?_)
  refine lv_aload_n hx hb dX0_keep_46 rfl (lv_at hl 0 rfl) ?_
  refine va_get (D := D) (ci := 0) (v := .ref hr) (C := RX0) (T := TX0) (N := 2) hx hb hts iX0_keep_X0 hown hK hP 0 rfl rfl 0 (by decide) (hts _ mX0_keep_2) (fun _ h9 => h9) rfl dX0_keep_47 ?_
  refine lv_aload_n hx hb dX0_keep_50 rfl (lv_at hl 0 rfl) ?_
  refine va_get (D := D) (ci := 0) (v := .int 2) (C := RX0) (T := TX0) (N := 2) hx hb hts iX0_keep_X0 hown hK hP 0 rfl rfl 1 (by decide) (hts _ mX0_keep_1) (fun _ h9 => h9) rfl dX0_keep_51 ?_
  refine va_aldq hx hb hK hP 6 2 rfl rfl (by unfold vp_in; decide) dX0_keep_54 ?_
  refine W.eq (g2 := F0 m 55 ls [.ref (so 2)]) rfl ?_
  refine lv_ifnonnull (tgt := 74) hx hb dX0_keep_55 (by decide) ?_
  refine lv_aload_n hx hb dX0_keep_74 rfl (lv_at hl 0 rfl) ?_
  refine va_get (D := D) (ci := 0) (v := .ref hr) (C := RX0) (T := TX0) (N := 2) hx hb hts iX0_keep_X0 hown hK hP 0 rfl rfl 0 (by decide) (hts _ mX0_keep_2) (fun _ h9 => h9) rfl dX0_keep_75 ?_
  refine lv_aload_n hx hb dX0_keep_78 rfl (lv_at hl 0 rfl) ?_
  refine va_get (D := D) (ci := 0) (v := .int 2) (C := RX0) (T := TX0) (N := 2) hx hb hts iX0_keep_X0 hown hK hP 0 rfl rfl 1 (by decide) (hts _ mX0_keep_1) (fun _ h9 => h9) rfl dX0_keep_79 ?_
  refine va_aldq hx hb hK hP 6 2 rfl rfl (by unfold vp_in; decide) dX0_keep_82 ?_
  refine W.eq (g2 := F0 m 83 ls [.ref (so 2)]) rfl ?_
  refine lv_aload_n hx hb dX0_keep_83 rfl (lv_at hl 1 rfl) ?_
  obtain ⟨q, hq, hqe⟩ := cfh_ex (vs 2).2.2.2.2.1 (vs 2).2.2.2.2.2.1 (vs 2).2.2.2.2.2.2.1 (vs 2).2.2.2.2.2.2.2 a_inputs a_remembered a_asks a_hours a_zeros a_ones a_alarms a_faults
  refine cV_callV (As := [.ref ao]) (rest := []) (wr := List.filterMap (fun i => (((wX0 ho hr 2 ++ wX3 kI kJ ao aa a_inputs a_remembered a_asks a_hours a_zeros a_ones a_alarms a_faults) ++ (svA kS hr so 4 ++ svs kI kJ so sa vs 4)))[i]?) [0, 6, 7, 8, 9, 10, 11, 12, 13, 14, 15, 16, 22, 23, 24, 25, 26]) (wN := ((wX0 ho hr 2 ++ wX3 kI kJ ao aa a_inputs a_remembered a_asks a_hours a_zeros a_ones a_alarms a_faults) ++ (svA kS hr so 4 ++ svs kI kJ so sa (vup vs 2 q) 4))) (ci := 2) (q0 := 17) hE (c_X3_copyFrom l D kI kJ kS (so 2) (sa 2) ao aa (vs 2).1 (vs 2).2.1 (vs 2).2.2.1 (vs 2).2.2.2.1 (vs 2).2.2.2.2.1 (vs 2).2.2.2.2.2.1 (vs 2).2.2.2.2.2.2.1 (vs 2).2.2.2.2.2.2.2 a_inputs a_remembered a_asks a_hours a_zeros a_ones a_alarms a_faults hq) (cwV 1 hts gX0_keep_X3_copyFrom rfl rfl rfl (by decide +kernel) ⟨Nat.le_of_ble_eq_true rfl, Nat.le_of_ble_eq_true rfl⟩) hP hD hS [17, 18, 19, 20, 21, 1, 2, 3, 4, 5] [0, 6, 7, 8, 9, 10, 11, 12, 13, 14, 15, 16, 22, 23, 24, 25, 26] [0, 22, 23, 24, 25, 26, 1, 2, 3, 4, 5, 6, 7, 8, 9, 10, 11, 17, 18, 19, 20, 21, 12, 13, 14, 15, 16] rfl rfl rfl rfl (by decide) rfl rfl rfl rfl rfl hl.1 rfl (Nat.le_of_ble_eq_true rfl) dX0_keep_84 ⟨Nat.le_of_ble_eq_true rfl, Nat.le_of_ble_eq_true rfl⟩ (fun H locs hP hD hS => ?_)
  refine lv_aload_n hx hb dX0_keep_87 rfl (lv_at hl 0 rfl) ?_
  refine lv_dup hx hb dX0_keep_88 rfl ?_
  refine va_get (D := D) (ci := 0) (v := .int 2) (C := RX0) (T := TX0) (N := 2) hx hb hts iX0_keep_X0 hown hK hP 0 rfl rfl 1 (by decide) (hts _ mX0_keep_1) (fun _ h9 => h9) rfl dX0_keep_89 ?_
  refine lv_iconst (v := 1) hx hb dX0_keep_92 (by decide) ?_
  refine lv_iadd hx hb dX0_keep_93 ?_
  refine W.eq (g2 := F0 m 94 ls [.int 3, .ref ho]) rfl ?_
  refine va_put (D := D) (ci := 0) (v := .int 3) (ty := .int) (C := RX0) (T := TX0) (N := 2) hx hb hts iX0_keep_X0 tyX0 tyX0_ok nmX0 hown hK hP hD hS 0 rfl rfl 1 (by decide) (hts _ mX0_keep_1) (fun _ h9 => h9) rfl (by decide +kernel) rfl rfl (Nat.le_of_ble_eq_true rfl) dX0_keep_94 (fun H locs hP hD hS => ?_)
  have hP : va_P D vwCl ((wX0 ho hr 3 ++ wX3 kI kJ ao aa a_inputs a_remembered a_asks a_hours a_zeros a_ones a_alarms a_faults) ++ (svA kS hr so 4 ++ svs kI kJ so sa (vup vs 2 q) 4)) H := hP
  have hD : va_D A ((wX0 ho hr 3 ++ wX3 kI kJ ao aa a_inputs a_remembered a_asks a_hours a_zeros a_ones a_alarms a_faults) ++ (svA kS hr so 4 ++ svs kI kJ so sa (vup vs 2 q) 4)) := hD
  refine W.widen (k := 5) (n := 24) (Nat.le_of_ble_eq_true rfl) (Nat.le_of_ble_eq_true rfl) ?_
  refine hret _ _ _ _ (svA kS hr so 4 ++ svs kI kJ so sa (vup vs 2 q) 4) ⟨4, 3, so, sa, (vup vs 2 q), by decide, by decide, rfl, ?_, rfl⟩ dX0_keep_97 hP hD hS
  exact kp_ok (vs := vs) (vals := vals) 2 hv hqe
set_option maxHeartbeats 4000000 in
set_option maxRecDepth 100000 in
theorem c_X0_keep_4_3 (l : Launch) (D : va_G) (kI kJ kS : ClassId) (ho : Nat) (hr : Nat) (ao : Nat) (aa : Nat → Nat) (a_inputs : Int32) (a_remembered : Int32) (a_asks : Int32) (a_hours : Int32) (a_zeros : Nat → Int64) (a_ones : Nat → Int64) (a_alarms : Nat → Int32) (a_faults : Nat → Int32) (so : Nat → Nat) (sa : Nat → Nat → Nat) (vs : Nat → SV) (vals : Nat → SV) (hv : ∀ j, j < 3 → svEq (vs j) (vals j)) : gV l D (tyL kI kJ kS) yX0_keep wsX0_keep (rmk 2 5 24 32) [.ref ho, .ref ao] ((wX0 ho hr 3 ++ wX3 kI kJ ao aa a_inputs a_remembered a_asks a_hours a_zeros a_ones a_alarms a_faults) ++ (svA kS hr so 4 ++ svs kI kJ so sa vs 4)) (wX0 ho hr 4 ++ wX3 kI kJ ao aa a_inputs a_remembered a_asks a_hours a_zeros a_ones a_alarms a_faults) (TL kI kJ kS hr 4 (vup vals 3 (a_inputs, a_remembered, a_asks, a_hours, a_zeros, a_ones, a_alarms, a_faults))) := by
  refine gV_of (cc := cX0_keep) (maxL := 2) (by decide) rfl (Nat.le_of_ble_eq_true rfl) ?_
  intro p e s m av below meth c A Q ls hE hP hD hS hl hret
  have hE : ent_ p s m av meth c RX0 cX0_keep 2 none wsX0_keep (tyL kI kJ kS) D A true := hE
  obtain ⟨hx, hb, hml, hown, hts, hrt, hlocks, hK, hA, hst⟩ := id hE
  have hl : lv_has ls 2 [(0, .ref ho), (1, .ref ao)] := hl
  refine lv_aload_n hx hb dX0_keep_0 rfl (lv_at hl 0 rfl) ?_
  refine va_get (D := D) (ci := 0) (v := .int 3) (C := RX0) (T := TX0) (N := 2) hx hb hts iX0_keep_X0 hown hK hP 0 rfl rfl 1 (by decide) (hts _ mX0_keep_1) (fun _ h9 => h9) rfl dX0_keep_1 ?_
  refine lv_aload_n hx hb dX0_keep_4 rfl (lv_at hl 0 rfl) ?_
  refine va_get (D := D) (ci := 0) (v := .ref hr) (C := RX0) (T := TX0) (N := 2) hx hb hts iX0_keep_X0 hown hK hP 0 rfl rfl 0 (by decide) (hts _ mX0_keep_2) (fun _ h9 => h9) rfl dX0_keep_5 ?_
  refine va_alen (v := 6) hx hb hK hP 6 2 rfl rfl rfl dX0_keep_8 ?_
  refine lv_icmp_lt (tgt := 27) hx hb dX0_keep_9 (by decide) (fun _ => ?_) (fun hc => absurd hc (by decide))
  refine lv_aload_n hx hb dX0_keep_27 rfl (lv_at hl 0 rfl) ?_
  refine va_get (D := D) (ci := 0) (v := .int 3) (C := RX0) (T := TX0) (N := 2) hx hb hts iX0_keep_X0 hown hK hP 0 rfl rfl 1 (by decide) (hts _ mX0_keep_1) (fun _ h9 => h9) rfl dX0_keep_28 ?_
  refine lv_if_lt (tgt := 97) hx hb dX0_keep_31 (by decide) (fun hc => absurd hc (by decide)) (fun _ => ?_)
  refine lv_aload_n hx hb dX0_keep_34 rfl (lv_at hl 0 rfl) ?_
  refine va_get (D := D) (ci := 0) (v := .int 3) (C := RX0) (T := TX0) (N := 2) hx hb hts iX0_keep_X0 hown hK hP 0 rfl rfl 1 (by decide) (hts _ mX0_keep_1) (fun _ h9 => h9) rfl dX0_keep_35 ?_
  refine lv_aload_n hx hb dX0_keep_38 rfl (lv_at hl 0 rfl) ?_
  refine va_get (D := D) (ci := 0) (v := .ref hr) (C := RX0) (T := TX0) (N := 2) hx hb hts iX0_keep_X0 hown hK hP 0 rfl rfl 0 (by decide) (hts _ mX0_keep_2) (fun _ h9 => h9) rfl dX0_keep_39 ?_
  refine va_alen (v := 6) hx hb hK hP 6 2 rfl rfl rfl dX0_keep_42 ?_
  refine lv_icmp_ge (tgt := 97) hx hb dX0_keep_43 (by decide) (fun hc => absurd hc (by decide)) (fun _ => ?_)
  refine lv_aload_n hx hb dX0_keep_46 rfl (lv_at hl 0 rfl) ?_
  refine va_get (D := D) (ci := 0) (v := .ref hr) (C := RX0) (T := TX0) (N := 2) hx hb hts iX0_keep_X0 hown hK hP 0 rfl rfl 0 (by decide) (hts _ mX0_keep_2) (fun _ h9 => h9) rfl dX0_keep_47 ?_
  refine lv_aload_n hx hb dX0_keep_50 rfl (lv_at hl 0 rfl) ?_
  refine va_get (D := D) (ci := 0) (v := .int 3) (C := RX0) (T := TX0) (N := 2) hx hb hts iX0_keep_X0 hown hK hP 0 rfl rfl 1 (by decide) (hts _ mX0_keep_1) (fun _ h9 => h9) rfl dX0_keep_51 ?_
  refine va_aldq hx hb hK hP 6 2 rfl rfl (by unfold vp_in; decide) dX0_keep_54 ?_
  refine W.eq (g2 := F0 m 55 ls [.ref (so 3)]) rfl ?_
  refine lv_ifnonnull (tgt := 74) hx hb dX0_keep_55 (by decide) ?_
  refine lv_aload_n hx hb dX0_keep_74 rfl (lv_at hl 0 rfl) ?_
  refine va_get (D := D) (ci := 0) (v := .ref hr) (C := RX0) (T := TX0) (N := 2) hx hb hts iX0_keep_X0 hown hK hP 0 rfl rfl 0 (by decide) (hts _ mX0_keep_2) (fun _ h9 => h9) rfl dX0_keep_75 ?_
  refine lv_aload_n hx hb dX0_keep_78 rfl (lv_at hl 0 rfl) ?_
  refine va_get (D := D) (ci := 0) (v := .int 3) (C := RX0) (T := TX0) (N := 2) hx hb hts iX0_keep_X0 hown hK hP 0 rfl rfl 1 (by decide) (hts _ mX0_keep_1) (fun _ h9 => h9) rfl dX0_keep_79 ?_
  refine va_aldq hx hb hK hP 6 2 rfl rfl (by unfold vp_in; decide) dX0_keep_82 ?_
  refine W.eq (g2 := F0 m 83 ls [.ref (so 3)]) rfl ?_
  refine lv_aload_n hx hb dX0_keep_83 rfl (lv_at hl 1 rfl) ?_
  obtain ⟨q, hq, hqe⟩ := cfh_ex (vs 3).2.2.2.2.1 (vs 3).2.2.2.2.2.1 (vs 3).2.2.2.2.2.2.1 (vs 3).2.2.2.2.2.2.2 a_inputs a_remembered a_asks a_hours a_zeros a_ones a_alarms a_faults
  refine cV_callV (As := [.ref ao]) (rest := []) (wr := List.filterMap (fun i => (((wX0 ho hr 3 ++ wX3 kI kJ ao aa a_inputs a_remembered a_asks a_hours a_zeros a_ones a_alarms a_faults) ++ (svA kS hr so 4 ++ svs kI kJ so sa vs 4)))[i]?) [0, 6, 7, 8, 9, 10, 11, 12, 13, 14, 15, 16, 17, 18, 19, 20, 21]) (wN := ((wX0 ho hr 3 ++ wX3 kI kJ ao aa a_inputs a_remembered a_asks a_hours a_zeros a_ones a_alarms a_faults) ++ (svA kS hr so 4 ++ svs kI kJ so sa (vup vs 3 q) 4))) (ci := 2) (q0 := 22) hE (c_X3_copyFrom l D kI kJ kS (so 3) (sa 3) ao aa (vs 3).1 (vs 3).2.1 (vs 3).2.2.1 (vs 3).2.2.2.1 (vs 3).2.2.2.2.1 (vs 3).2.2.2.2.2.1 (vs 3).2.2.2.2.2.2.1 (vs 3).2.2.2.2.2.2.2 a_inputs a_remembered a_asks a_hours a_zeros a_ones a_alarms a_faults hq) (cwV 1 hts gX0_keep_X3_copyFrom rfl rfl rfl (by decide +kernel) ⟨Nat.le_of_ble_eq_true rfl, Nat.le_of_ble_eq_true rfl⟩) hP hD hS [22, 23, 24, 25, 26, 1, 2, 3, 4, 5] [0, 6, 7, 8, 9, 10, 11, 12, 13, 14, 15, 16, 17, 18, 19, 20, 21] [0, 22, 23, 24, 25, 26, 1, 2, 3, 4, 5, 6, 7, 8, 9, 10, 11, 12, 13, 14, 15, 16, 17, 18, 19, 20, 21] rfl rfl rfl rfl (by decide) rfl rfl rfl rfl rfl hl.1 rfl (Nat.le_of_ble_eq_true rfl) dX0_keep_84 ⟨Nat.le_of_ble_eq_true rfl, Nat.le_of_ble_eq_true rfl⟩ (fun H locs hP hD hS => ?_)
  refine lv_aload_n hx hb dX0_keep_87 rfl (lv_at hl 0 rfl) ?_
  refine lv_dup hx hb dX0_keep_88 rfl ?_
  refine va_get (D := D) (ci := 0) (v := .int 3) (C := RX0) (T := TX0) (N := 2) hx hb hts iX0_keep_X0 hown hK hP 0 rfl rfl 1 (by decide) (hts _ mX0_keep_1) (fun _ h9 => h9) rfl dX0_keep_89 ?_
  refine lv_iconst (v := 1) hx hb dX0_keep_92 (by decide) ?_
  refine lv_iadd hx hb dX0_keep_93 ?_
  refine W.eq (g2 := F0 m 94 ls [.int 4, .ref ho]) rfl ?_
  refine va_put (D := D) (ci := 0) (v := .int 4) (ty := .int) (C := RX0) (T := TX0) (N := 2) hx hb hts iX0_keep_X0 tyX0 tyX0_ok nmX0 hown hK hP hD hS 0 rfl rfl 1 (by decide) (hts _ mX0_keep_1) (fun _ h9 => h9) rfl (by decide +kernel) rfl rfl (Nat.le_of_ble_eq_true rfl) dX0_keep_94 (fun H locs hP hD hS => ?_)
  have hP : va_P D vwCl ((wX0 ho hr 4 ++ wX3 kI kJ ao aa a_inputs a_remembered a_asks a_hours a_zeros a_ones a_alarms a_faults) ++ (svA kS hr so 4 ++ svs kI kJ so sa (vup vs 3 q) 4)) H := hP
  have hD : va_D A ((wX0 ho hr 4 ++ wX3 kI kJ ao aa a_inputs a_remembered a_asks a_hours a_zeros a_ones a_alarms a_faults) ++ (svA kS hr so 4 ++ svs kI kJ so sa (vup vs 3 q) 4)) := hD
  refine W.widen (k := 5) (n := 24) (Nat.le_of_ble_eq_true rfl) (Nat.le_of_ble_eq_true rfl) ?_
  refine hret _ _ _ _ (svA kS hr so 4 ++ svs kI kJ so sa (vup vs 3 q) 4) ⟨4, 4, so, sa, (vup vs 3 q), by decide, by decide, rfl, ?_, rfl⟩ dX0_keep_97 hP hD hS
  exact kp_ok (vs := vs) (vals := vals) 3 hv hqe
set_option maxHeartbeats 4000000 in
set_option maxRecDepth 100000 in
theorem c_X0_keep_4_4 (l : Launch) (D : va_G) (kI kJ kS : ClassId) (ho : Nat) (hr : Nat) (ao : Nat) (aa : Nat → Nat) (a_inputs : Int32) (a_remembered : Int32) (a_asks : Int32) (a_hours : Int32) (a_zeros : Nat → Int64) (a_ones : Nat → Int64) (a_alarms : Nat → Int32) (a_faults : Nat → Int32) (so : Nat → Nat) (sa : Nat → Nat → Nat) (vs : Nat → SV) (vals : Nat → SV) (hv : ∀ j, j < 4 → svEq (vs j) (vals j)) : gV l D (tyL kI kJ kS) yX0_keep wsX0_keep (rmk 2 5 24 32) [.ref ho, .ref ao] ((wX0 ho hr 4 ++ wX3 kI kJ ao aa a_inputs a_remembered a_asks a_hours a_zeros a_ones a_alarms a_faults) ++ (svA kS hr so 4 ++ svs kI kJ so sa vs 4)) (wX0 ho hr 5 ++ wX3 kI kJ ao aa a_inputs a_remembered a_asks a_hours a_zeros a_ones a_alarms a_faults) (TL kI kJ kS hr 5 (vup vals 4 (a_inputs, a_remembered, a_asks, a_hours, a_zeros, a_ones, a_alarms, a_faults))) := by
  refine gV_of (cc := cX0_keep) (maxL := 2) (by decide) rfl (Nat.le_of_ble_eq_true rfl) ?_
  intro p e s m av below meth c A Q ls hE hP hD hS hl hret
  have hE : ent_ p s m av meth c RX0 cX0_keep 2 none wsX0_keep (tyL kI kJ kS) D A true := hE
  obtain ⟨hx, hb, hml, hown, hts, hrt, hlocks, hK, hA, hst⟩ := id hE
  have hl : lv_has ls 2 [(0, .ref ho), (1, .ref ao)] := hl
  refine lv_aload_n hx hb dX0_keep_0 rfl (lv_at hl 0 rfl) ?_
  refine va_get (D := D) (ci := 0) (v := .int 4) (C := RX0) (T := TX0) (N := 2) hx hb hts iX0_keep_X0 hown hK hP 0 rfl rfl 1 (by decide) (hts _ mX0_keep_1) (fun _ h9 => h9) rfl dX0_keep_1 ?_
  refine lv_aload_n hx hb dX0_keep_4 rfl (lv_at hl 0 rfl) ?_
  refine va_get (D := D) (ci := 0) (v := .ref hr) (C := RX0) (T := TX0) (N := 2) hx hb hts iX0_keep_X0 hown hK hP 0 rfl rfl 0 (by decide) (hts _ mX0_keep_2) (fun _ h9 => h9) rfl dX0_keep_5 ?_
  refine va_alen (v := 6) hx hb hK hP 6 2 rfl rfl rfl dX0_keep_8 ?_
  refine lv_icmp_lt (tgt := 27) hx hb dX0_keep_9 (by decide) (fun _ => ?_) (fun hc => absurd hc (by decide))
  refine lv_aload_n hx hb dX0_keep_27 rfl (lv_at hl 0 rfl) ?_
  refine va_get (D := D) (ci := 0) (v := .int 4) (C := RX0) (T := TX0) (N := 2) hx hb hts iX0_keep_X0 hown hK hP 0 rfl rfl 1 (by decide) (hts _ mX0_keep_1) (fun _ h9 => h9) rfl dX0_keep_28 ?_
  refine lv_if_lt (tgt := 97) hx hb dX0_keep_31 (by decide) (fun hc => absurd hc (by decide)) (fun _ => ?_)
  refine lv_aload_n hx hb dX0_keep_34 rfl (lv_at hl 0 rfl) ?_
  refine va_get (D := D) (ci := 0) (v := .int 4) (C := RX0) (T := TX0) (N := 2) hx hb hts iX0_keep_X0 hown hK hP 0 rfl rfl 1 (by decide) (hts _ mX0_keep_1) (fun _ h9 => h9) rfl dX0_keep_35 ?_
  refine lv_aload_n hx hb dX0_keep_38 rfl (lv_at hl 0 rfl) ?_
  refine va_get (D := D) (ci := 0) (v := .ref hr) (C := RX0) (T := TX0) (N := 2) hx hb hts iX0_keep_X0 hown hK hP 0 rfl rfl 0 (by decide) (hts _ mX0_keep_2) (fun _ h9 => h9) rfl dX0_keep_39 ?_
  refine va_alen (v := 6) hx hb hK hP 6 2 rfl rfl rfl dX0_keep_42 ?_
  refine lv_icmp_ge (tgt := 97) hx hb dX0_keep_43 (by decide) (fun hc => absurd hc (by decide)) (fun _ => ?_)
  refine lv_aload_n hx hb dX0_keep_46 rfl (lv_at hl 0 rfl) ?_
  refine va_get (D := D) (ci := 0) (v := .ref hr) (C := RX0) (T := TX0) (N := 2) hx hb hts iX0_keep_X0 hown hK hP 0 rfl rfl 0 (by decide) (hts _ mX0_keep_2) (fun _ h9 => h9) rfl dX0_keep_47 ?_
  refine lv_aload_n hx hb dX0_keep_50 rfl (lv_at hl 0 rfl) ?_
  refine va_get (D := D) (ci := 0) (v := .int 4) (C := RX0) (T := TX0) (N := 2) hx hb hts iX0_keep_X0 hown hK hP 0 rfl rfl 1 (by decide) (hts _ mX0_keep_1) (fun _ h9 => h9) rfl dX0_keep_51 ?_
  refine va_aldq hx hb hK hP 6 2 rfl rfl (by unfold vp_in; decide) dX0_keep_54 ?_
  refine W.eq (g2 := F0 m 55 ls [.null]) rfl ?_
  refine lv_ifnonnullN hx hb dX0_keep_55 ?_
  refine lv_aload_n hx hb dX0_keep_58 rfl (lv_at hl 0 rfl) ?_
  refine va_get (D := D) (ci := 0) (v := .ref hr) (C := RX0) (T := TX0) (N := 2) hx hb hts iX0_keep_X0 hown hK hP 0 rfl rfl 0 (by decide) (hts _ mX0_keep_2) (fun _ h9 => h9) rfl dX0_keep_59 ?_
  refine lv_aload_n hx hb dX0_keep_62 rfl (lv_at hl 0 rfl) ?_
  refine va_get (D := D) (ci := 0) (v := .int 4) (C := RX0) (T := TX0) (N := 2) hx hb hts iX0_keep_X0 hown hK hP 0 rfl rfl 1 (by decide) (hts _ mX0_keep_1) (fun _ h9 => h9) rfl dX0_keep_63 ?_
  refine va_new (ci := 2) (fs := [.int 0, .int 0, .int 0, .int 0, .null, .null, .null, .null]) (C := RX3) (T := TX3) (N := 8) hx hb hts iX0_keep_X3 tyX3 tyX3_ok hown (hts _ mX0_keep_3) (hts _ mX0_keep_4) (hts _ mX0_keep_5) hK hP hD hS hA rfl (fun j hj => by rcases (show j = 0 ∨ j = 1 ∨ j = 2 ∨ j = 3 ∨ j = 4 ∨ j = 5 ∨ j = 6 ∨ j = 7 by omega) with rfl | rfl | rfl | rfl | rfl | rfl | rfl | rfl <;> rfl) (Nat.le_of_ble_eq_true rfl) (Nat.le_of_ble_eq_true rfl) dX0_keep_66 (fun nq H hP hD hS => ?_)
  have hP : va_P D vwCl ((wX0 ho hr 4 ++ wX3 kI kJ ao aa a_inputs a_remembered a_asks a_hours a_zeros a_ones a_alarms a_faults) ++ ((svA kS hr so 4 ++ svs kI kJ so sa vs 4) ++ [(nq, .inr (2, [.int 0, .int 0, .int 0, .int 0, .null, .null, .null, .null]))])) H := hP
  have hD : va_D A ((wX0 ho hr 4 ++ wX3 kI kJ ao aa a_inputs a_remembered a_asks a_hours a_zeros a_ones a_alarms a_faults) ++ ((svA kS hr so 4 ++ svs kI kJ so sa vs 4) ++ [(nq, .inr (2, [.int 0, .int 0, .int 0, .int 0, .null, .null, .null, .null]))])) := hD
  refine lv_dup hx hb dX0_keep_69 rfl ?_
  refine cN_callIN (As := []) (rest := [.ref nq, .int 4, .ref hr]) (wr := ((wX0 ho hr 4 ++ wX3 kI kJ ao aa a_inputs a_remembered a_asks a_hours a_zeros a_ones a_alarms a_faults) ++ (svA kS hr so 4 ++ svs kI kJ so sa vs 4))) (wN := fun na => ((wX0 ho hr 4 ++ wX3 kI kJ ao aa a_inputs a_remembered a_asks a_hours a_zeros a_ones a_alarms a_faults) ++ ((svA kS hr so 4 ++ svs kI kJ so sa vs 4) ++ wX3 kI kJ nq na 0 0 0 0 (fun _ => 0) (fun _ => 0) (fun _ => 0) (fun _ => 0)))) hE (c_X3_init l D kI kJ kS nq) ⟨va_cnB 0 hts ggX0_keep_X3_init rfl rfl rfl (nm_8 (hst rfl).2) (hts _ mX0_keep_5) (by decide +kernel) ⟨Nat.le_of_ble_eq_true rfl, Nat.le_of_ble_eq_true rfl⟩, rfl, hts _ mX0_keep_11⟩ hP hD hS [27] [0, 1, 2, 3, 4, 5, 6, 7, 8, 9, 10, 11, 12, 13, 14, 15, 16, 17, 18, 19, 20, 21, 22, 23, 24, 25, 26] [0, 1, 2, 3, 4, 5, 6, 7, 8, 9, 10, 11, 12, 13, 14, 15, 16, 17, 18, 19, 20, 21, 22, 23, 24, 25, 26, 27, 28, 29, 30, 31] rfl rfl rfl rfl (by decide) (fun _ => rfl) rfl rfl hl.1 rfl (Nat.le_of_ble_eq_true rfl) dX0_keep_70 ⟨Nat.le_of_ble_eq_true rfl, Nat.le_of_ble_eq_true rfl⟩ (fun na H locs hP hD hS => ?_)
  have hP : va_P D vwCl ((wX0 ho hr 4 ++ wX3 kI kJ ao aa a_inputs a_remembered a_asks a_hours a_zeros a_ones a_alarms a_faults) ++ ((svA kS hr so 4 ++ svs kI kJ so sa vs 4) ++ wX3 kI kJ nq na 0 0 0 0 (fun _ => 0) (fun _ => 0) (fun _ => 0) (fun _ => 0))) H := hP
  have hD : va_D A ((wX0 ho hr 4 ++ wX3 kI kJ ao aa a_inputs a_remembered a_asks a_hours a_zeros a_ones a_alarms a_faults) ++ ((svA kS hr so 4 ++ svs kI kJ so sa vs 4) ++ wX3 kI kJ nq na 0 0 0 0 (fun _ => 0) (fun _ => 0) (fun _ => 0) (fun _ => 0))) := hD
  refine va_astq (r := (RX3, TX3, 8)) hx hb hK hP hD hS 6 2 27 2 rfl rfl rfl rfl (by unfold vp_in; decide) dX0_keep_73 (fun H locs hP hD hS => ?_)
  have hP : va_P D vwCl ((wX0 ho hr 4 ++ wX3 kI kJ ao aa a_inputs a_remembered a_asks a_hours a_zeros a_ones a_alarms a_faults) ++ (([(hr, .inl (kS, 6, .inr (.inr (.inr (.inr (va_up (fun k => if k < 4 then some (so k) else none) 4 (some nq)))))))] ++ svs kI kJ so sa vs 4) ++ wX3 kI kJ nq na 0 0 0 0 (fun _ => 0) (fun _ => 0) (fun _ => 0) (fun _ => 0))) H := hP
  have hD : va_D A ((wX0 ho hr 4 ++ wX3 kI kJ ao aa a_inputs a_remembered a_asks a_hours a_zeros a_ones a_alarms a_faults) ++ (([(hr, .inl (kS, 6, .inr (.inr (.inr (.inr (va_up (fun k => if k < 4 then some (so k) else none) 4 (some nq)))))))] ++ svs kI kJ so sa vs 4) ++ wX3 kI kJ nq na 0 0 0 0 (fun _ => 0) (fun _ => 0) (fun _ => 0) (fun _ => 0))) := hD
  rw [ar_snoc so 4 nq] at hP hD
  have hP : va_P D vwCl ((wX0 ho hr 4 ++ wX3 kI kJ ao aa a_inputs a_remembered a_asks a_hours a_zeros a_ones a_alarms a_faults) ++ (svA kS hr (snoc so 4 nq) 5 ++ svs kI kJ (snoc so 4 nq) (snoc sa 4 na) (snoc vs 4 zSV) 5)) H := hP
  have hD : va_D A ((wX0 ho hr 4 ++ wX3 kI kJ ao aa a_inputs a_remembered a_asks a_hours a_zeros a_ones a_alarms a_faults) ++ (svA kS hr (snoc so 4 nq) 5 ++ svs kI kJ (snoc so 4 nq) (snoc sa 4 na) (snoc vs 4 zSV) 5)) := hD
  refine lv_aload_n hx hb dX0_keep_74 rfl (lv_at hl 0 rfl) ?_
  refine va_get (D := D) (ci := 0) (v := .ref hr) (C := RX0) (T := TX0) (N := 2) hx hb hts iX0_keep_X0 hown hK hP 0 rfl rfl 0 (by decide) (hts _ mX0_keep_2) (fun _ h9 => h9) rfl dX0_keep_75 ?_
  refine lv_aload_n hx hb dX0_keep_78 rfl (lv_at hl 0 rfl) ?_
  refine va_get (D := D) (ci := 0) (v := .int 4) (C := RX0) (T := TX0) (N := 2) hx hb hts iX0_keep_X0 hown hK hP 0 rfl rfl 1 (by decide) (hts _ mX0_keep_1) (fun _ h9 => h9) rfl dX0_keep_79 ?_
  refine va_aldq hx hb hK hP 6 2 rfl rfl (by unfold vp_in; decide) dX0_keep_82 ?_
  refine W.eq (g2 := F0 m 83 ls [.ref ((snoc so 4 nq) 4)]) rfl ?_
  refine lv_aload_n hx hb dX0_keep_83 rfl (lv_at hl 1 rfl) ?_
  obtain ⟨q, hq, hqe⟩ := cfh_ex ((snoc vs 4 zSV) 4).2.2.2.2.1 ((snoc vs 4 zSV) 4).2.2.2.2.2.1 ((snoc vs 4 zSV) 4).2.2.2.2.2.2.1 ((snoc vs 4 zSV) 4).2.2.2.2.2.2.2 a_inputs a_remembered a_asks a_hours a_zeros a_ones a_alarms a_faults
  refine cV_callV (As := [.ref ao]) (rest := []) (wr := List.filterMap (fun i => (((wX0 ho hr 4 ++ wX3 kI kJ ao aa a_inputs a_remembered a_asks a_hours a_zeros a_ones a_alarms a_faults) ++ (svA kS hr (snoc so 4 nq) 5 ++ svs kI kJ (snoc so 4 nq) (snoc sa 4 na) (snoc vs 4 zSV) 5)))[i]?) [0, 6, 7, 8, 9, 10, 11, 12, 13, 14, 15, 16, 17, 18, 19, 20, 21, 22, 23, 24, 25, 26]) (wN := ((wX0 ho hr 4 ++ wX3 kI kJ ao aa a_inputs a_remembered a_asks a_hours a_zeros a_ones a_alarms a_faults) ++ (svA kS hr (snoc so 4 nq) 5 ++ svs kI kJ (snoc so 4 nq) (snoc sa 4 na) (vup (snoc vs 4 zSV) 4 q) 5))) (ci := 2) (q0 := 27) hE (c_X3_copyFrom l D kI kJ kS ((snoc so 4 nq) 4) ((snoc sa 4 na) 4) ao aa ((snoc vs 4 zSV) 4).1 ((snoc vs 4 zSV) 4).2.1 ((snoc vs 4 zSV) 4).2.2.1 ((snoc vs 4 zSV) 4).2.2.2.1 ((snoc vs 4 zSV) 4).2.2.2.2.1 ((snoc vs 4 zSV) 4).2.2.2.2.2.1 ((snoc vs 4 zSV) 4).2.2.2.2.2.2.1 ((snoc vs 4 zSV) 4).2.2.2.2.2.2.2 a_inputs a_remembered a_asks a_hours a_zeros a_ones a_alarms a_faults hq) (cwV 1 hts gX0_keep_X3_copyFrom rfl rfl rfl (by decide +kernel) ⟨Nat.le_of_ble_eq_true rfl, Nat.le_of_ble_eq_true rfl⟩) hP hD hS [27, 28, 29, 30, 31, 1, 2, 3, 4, 5] [0, 6, 7, 8, 9, 10, 11, 12, 13, 14, 15, 16, 17, 18, 19, 20, 21, 22, 23, 24, 25, 26] [0, 27, 28, 29, 30, 31, 1, 2, 3, 4, 5, 6, 7, 8, 9, 10, 11, 12, 13, 14, 15, 16, 17, 18, 19, 20, 21, 22, 23, 24, 25, 26] rfl rfl rfl rfl (by decide) rfl rfl rfl rfl rfl hl.1 rfl (Nat.le_of_ble_eq_true rfl) dX0_keep_84 ⟨Nat.le_of_ble_eq_true rfl, Nat.le_of_ble_eq_true rfl⟩ (fun H locs hP hD hS => ?_)
  refine lv_aload_n hx hb dX0_keep_87 rfl (lv_at hl 0 rfl) ?_
  refine lv_dup hx hb dX0_keep_88 rfl ?_
  refine va_get (D := D) (ci := 0) (v := .int 4) (C := RX0) (T := TX0) (N := 2) hx hb hts iX0_keep_X0 hown hK hP 0 rfl rfl 1 (by decide) (hts _ mX0_keep_1) (fun _ h9 => h9) rfl dX0_keep_89 ?_
  refine lv_iconst (v := 1) hx hb dX0_keep_92 (by decide) ?_
  refine lv_iadd hx hb dX0_keep_93 ?_
  refine W.eq (g2 := F0 m 94 ls [.int 5, .ref ho]) rfl ?_
  refine va_put (D := D) (ci := 0) (v := .int 5) (ty := .int) (C := RX0) (T := TX0) (N := 2) hx hb hts iX0_keep_X0 tyX0 tyX0_ok nmX0 hown hK hP hD hS 0 rfl rfl 1 (by decide) (hts _ mX0_keep_1) (fun _ h9 => h9) rfl (by decide +kernel) rfl rfl (Nat.le_of_ble_eq_true rfl) dX0_keep_94 (fun H locs hP hD hS => ?_)
  have hP : va_P D vwCl ((wX0 ho hr 5 ++ wX3 kI kJ ao aa a_inputs a_remembered a_asks a_hours a_zeros a_ones a_alarms a_faults) ++ (svA kS hr (snoc so 4 nq) 5 ++ svs kI kJ (snoc so 4 nq) (snoc sa 4 na) (vup (snoc vs 4 zSV) 4 q) 5)) H := hP
  have hD : va_D A ((wX0 ho hr 5 ++ wX3 kI kJ ao aa a_inputs a_remembered a_asks a_hours a_zeros a_ones a_alarms a_faults) ++ (svA kS hr (snoc so 4 nq) 5 ++ svs kI kJ (snoc so 4 nq) (snoc sa 4 na) (vup (snoc vs 4 zSV) 4 q) 5)) := hD
  refine W.widen (k := 5) (n := 24) (Nat.le_of_ble_eq_true rfl) (Nat.le_of_ble_eq_true rfl) ?_
  refine hret _ _ _ _ (svA kS hr (snoc so 4 nq) 5 ++ svs kI kJ (snoc so 4 nq) (snoc sa 4 na) (vup (snoc vs 4 zSV) 4 q) 5) ⟨5, 5, (snoc so 4 nq), (snoc sa 4 na), (vup (snoc vs 4 zSV) 4 q), by decide, by decide, rfl, ?_, rfl⟩ dX0_keep_97 hP hD hS
  exact kpn_ok (vs := vs) (vals := vals) 4 hv hqe
set_option maxHeartbeats 4000000 in
set_option maxRecDepth 100000 in
theorem c_X0_keep_5_0 (l : Launch) (D : va_G) (kI kJ kS : ClassId) (ho : Nat) (hr : Nat) (ao : Nat) (aa : Nat → Nat) (a_inputs : Int32) (a_remembered : Int32) (a_asks : Int32) (a_hours : Int32) (a_zeros : Nat → Int64) (a_ones : Nat → Int64) (a_alarms : Nat → Int32) (a_faults : Nat → Int32) (so : Nat → Nat) (sa : Nat → Nat → Nat) (vs : Nat → SV) (vals : Nat → SV) (hv : ∀ j, j < 0 → svEq (vs j) (vals j)) : gV l D (tyL kI kJ kS) yX0_keep wsX0_keep (rmk 2 5 24 32) [.ref ho, .ref ao] ((wX0 ho hr 0 ++ wX3 kI kJ ao aa a_inputs a_remembered a_asks a_hours a_zeros a_ones a_alarms a_faults) ++ (svA kS hr so 5 ++ svs kI kJ so sa vs 5)) (wX0 ho hr 1 ++ wX3 kI kJ ao aa a_inputs a_remembered a_asks a_hours a_zeros a_ones a_alarms a_faults) (TL kI kJ kS hr 1 (vup vals 0 (a_inputs, a_remembered, a_asks, a_hours, a_zeros, a_ones, a_alarms, a_faults))) := by
  refine gV_of (cc := cX0_keep) (maxL := 2) (by decide) rfl (Nat.le_of_ble_eq_true rfl) ?_
  intro p e s m av below meth c A Q ls hE hP hD hS hl hret
  have hE : ent_ p s m av meth c RX0 cX0_keep 2 none wsX0_keep (tyL kI kJ kS) D A true := hE
  obtain ⟨hx, hb, hml, hown, hts, hrt, hlocks, hK, hA, hst⟩ := id hE
  have hl : lv_has ls 2 [(0, .ref ho), (1, .ref ao)] := hl
  refine lv_aload_n hx hb dX0_keep_0 rfl (lv_at hl 0 rfl) ?_
  refine va_get (D := D) (ci := 0) (v := .int 0) (C := RX0) (T := TX0) (N := 2) hx hb hts iX0_keep_X0 hown hK hP 0 rfl rfl 1 (by decide) (hts _ mX0_keep_1) (fun _ h9 => h9) rfl dX0_keep_1 ?_
  refine lv_aload_n hx hb dX0_keep_4 rfl (lv_at hl 0 rfl) ?_
  refine va_get (D := D) (ci := 0) (v := .ref hr) (C := RX0) (T := TX0) (N := 2) hx hb hts iX0_keep_X0 hown hK hP 0 rfl rfl 0 (by decide) (hts _ mX0_keep_2) (fun _ h9 => h9) rfl dX0_keep_5 ?_
  refine va_alen (v := 6) hx hb hK hP 6 2 rfl rfl rfl dX0_keep_8 ?_
  refine lv_icmp_lt (tgt := 27) hx hb dX0_keep_9 (by decide) (fun _ => ?_) (fun hc => absurd hc (by decide))
  refine lv_aload_n hx hb dX0_keep_27 rfl (lv_at hl 0 rfl) ?_
  refine va_get (D := D) (ci := 0) (v := .int 0) (C := RX0) (T := TX0) (N := 2) hx hb hts iX0_keep_X0 hown hK hP 0 rfl rfl 1 (by decide) (hts _ mX0_keep_1) (fun _ h9 => h9) rfl dX0_keep_28 ?_
  refine lv_if_lt (tgt := 97) hx hb dX0_keep_31 (by decide) (fun hc => absurd hc (by decide)) (fun _ => ?_)
  refine lv_aload_n hx hb dX0_keep_34 rfl (lv_at hl 0 rfl) ?_
  refine va_get (D := D) (ci := 0) (v := .int 0) (C := RX0) (T := TX0) (N := 2) hx hb hts iX0_keep_X0 hown hK hP 0 rfl rfl 1 (by decide) (hts _ mX0_keep_1) (fun _ h9 => h9) rfl dX0_keep_35 ?_
  refine lv_aload_n hx hb dX0_keep_38 rfl (lv_at hl 0 rfl) ?_
  refine va_get (D := D) (ci := 0) (v := .ref hr) (C := RX0) (T := TX0) (N := 2) hx hb hts iX0_keep_X0 hown hK hP 0 rfl rfl 0 (by decide) (hts _ mX0_keep_2) (fun _ h9 => h9) rfl dX0_keep_39 ?_
  refine va_alen (v := 6) hx hb hK hP 6 2 rfl rfl rfl dX0_keep_42 ?_
  refine lv_icmp_ge (tgt := 97) hx hb dX0_keep_43 (by decide) (fun hc => absurd hc (by decide)) (fun _ => ?_)
  refine lv_aload_n hx hb dX0_keep_46 rfl (lv_at hl 0 rfl) ?_
  refine va_get (D := D) (ci := 0) (v := .ref hr) (C := RX0) (T := TX0) (N := 2) hx hb hts iX0_keep_X0 hown hK hP 0 rfl rfl 0 (by decide) (hts _ mX0_keep_2) (fun _ h9 => h9) rfl dX0_keep_47 ?_
  refine lv_aload_n hx hb dX0_keep_50 rfl (lv_at hl 0 rfl) ?_
  refine va_get (D := D) (ci := 0) (v := .int 0) (C := RX0) (T := TX0) (N := 2) hx hb hts iX0_keep_X0 hown hK hP 0 rfl rfl 1 (by decide) (hts _ mX0_keep_1) (fun _ h9 => h9) rfl dX0_keep_51 ?_
  refine va_aldq hx hb hK hP 6 2 rfl rfl (by unfold vp_in; decide) dX0_keep_54 ?_
  refine W.eq (g2 := F0 m 55 ls [.ref (so 0)]) rfl ?_
  refine lv_ifnonnull (tgt := 74) hx hb dX0_keep_55 (by decide) ?_
  refine lv_aload_n hx hb dX0_keep_74 rfl (lv_at hl 0 rfl) ?_
  refine va_get (D := D) (ci := 0) (v := .ref hr) (C := RX0) (T := TX0) (N := 2) hx hb hts iX0_keep_X0 hown hK hP 0 rfl rfl 0 (by decide) (hts _ mX0_keep_2) (fun _ h9 => h9) rfl dX0_keep_75 ?_
  refine lv_aload_n hx hb dX0_keep_78 rfl (lv_at hl 0 rfl) ?_
  refine va_get (D := D) (ci := 0) (v := .int 0) (C := RX0) (T := TX0) (N := 2) hx hb hts iX0_keep_X0 hown hK hP 0 rfl rfl 1 (by decide) (hts _ mX0_keep_1) (fun _ h9 => h9) rfl dX0_keep_79 ?_
  refine va_aldq hx hb hK hP 6 2 rfl rfl (by unfold vp_in; decide) dX0_keep_82 ?_
  refine W.eq (g2 := F0 m 83 ls [.ref (so 0)]) rfl ?_
  refine lv_aload_n hx hb dX0_keep_83 rfl (lv_at hl 1 rfl) ?_
  obtain ⟨q, hq, hqe⟩ := cfh_ex (vs 0).2.2.2.2.1 (vs 0).2.2.2.2.2.1 (vs 0).2.2.2.2.2.2.1 (vs 0).2.2.2.2.2.2.2 a_inputs a_remembered a_asks a_hours a_zeros a_ones a_alarms a_faults
  refine cV_callV (As := [.ref ao]) (rest := []) (wr := List.filterMap (fun i => (((wX0 ho hr 0 ++ wX3 kI kJ ao aa a_inputs a_remembered a_asks a_hours a_zeros a_ones a_alarms a_faults) ++ (svA kS hr so 5 ++ svs kI kJ so sa vs 5)))[i]?) [0, 6, 12, 13, 14, 15, 16, 17, 18, 19, 20, 21, 22, 23, 24, 25, 26, 27, 28, 29, 30, 31]) (wN := ((wX0 ho hr 0 ++ wX3 kI kJ ao aa a_inputs a_remembered a_asks a_hours a_zeros a_ones a_alarms a_faults) ++ (svA kS hr so 5 ++ svs kI kJ so sa (vup vs 0 q) 5))) (ci := 2) (q0 := 7) hE (c_X3_copyFrom l D kI kJ kS (so 0) (sa 0) ao aa (vs 0).1 (vs 0).2.1 (vs 0).2.2.1 (vs 0).2.2.2.1 (vs 0).2.2.2.2.1 (vs 0).2.2.2.2.2.1 (vs 0).2.2.2.2.2.2.1 (vs 0).2.2.2.2.2.2.2 a_inputs a_remembered a_asks a_hours a_zeros a_ones a_alarms a_faults hq) (cwV 1 hts gX0_keep_X3_copyFrom rfl rfl rfl (by decide +kernel) ⟨Nat.le_of_ble_eq_true rfl, Nat.le_of_ble_eq_true rfl⟩) hP hD hS [7, 8, 9, 10, 11, 1, 2, 3, 4, 5] [0, 6, 12, 13, 14, 15, 16, 17, 18, 19, 20, 21, 22, 23, 24, 25, 26, 27, 28, 29, 30, 31] [0, 27, 28, 29, 30, 31, 1, 22, 23, 24, 25, 26, 2, 3, 4, 5, 6, 7, 8, 9, 10, 11, 12, 13, 14, 15, 16, 17, 18, 19, 20, 21] rfl rfl rfl rfl (by decide) rfl rfl rfl rfl rfl hl.1 rfl (Nat.le_of_ble_eq_true rfl) dX0_keep_84 ⟨Nat.le_of_ble_eq_true rfl, Nat.le_of_ble_eq_true rfl⟩ (fun H locs hP hD hS => ?_)
  refine lv_aload_n hx hb dX0_keep_87 rfl (lv_at hl 0 rfl) ?_
  refine lv_dup hx hb dX0_keep_88 rfl ?_
  refine va_get (D := D) (ci := 0) (v := .int 0) (C := RX0) (T := TX0) (N := 2) hx hb hts iX0_keep_X0 hown hK hP 0 rfl rfl 1 (by decide) (hts _ mX0_keep_1) (fun _ h9 => h9) rfl dX0_keep_89 ?_
  refine lv_iconst (v := 1) hx hb dX0_keep_92 (by decide) ?_
  refine lv_iadd hx hb dX0_keep_93 ?_
  refine W.eq (g2 := F0 m 94 ls [.int 1, .ref ho]) rfl ?_
  refine va_put (D := D) (ci := 0) (v := .int 1) (ty := .int) (C := RX0) (T := TX0) (N := 2) hx hb hts iX0_keep_X0 tyX0 tyX0_ok nmX0 hown hK hP hD hS 0 rfl rfl 1 (by decide) (hts _ mX0_keep_1) (fun _ h9 => h9) rfl (by decide +kernel) rfl rfl (Nat.le_of_ble_eq_true rfl) dX0_keep_94 (fun H locs hP hD hS => ?_)
  have hP : va_P D vwCl ((wX0 ho hr 1 ++ wX3 kI kJ ao aa a_inputs a_remembered a_asks a_hours a_zeros a_ones a_alarms a_faults) ++ (svA kS hr so 5 ++ svs kI kJ so sa (vup vs 0 q) 5)) H := hP
  have hD : va_D A ((wX0 ho hr 1 ++ wX3 kI kJ ao aa a_inputs a_remembered a_asks a_hours a_zeros a_ones a_alarms a_faults) ++ (svA kS hr so 5 ++ svs kI kJ so sa (vup vs 0 q) 5)) := hD
  refine W.widen (k := 5) (n := 24) (Nat.le_of_ble_eq_true rfl) (Nat.le_of_ble_eq_true rfl) ?_
  refine hret _ _ _ _ (svA kS hr so 5 ++ svs kI kJ so sa (vup vs 0 q) 5) ⟨5, 1, so, sa, (vup vs 0 q), by decide, by decide, rfl, ?_, rfl⟩ dX0_keep_97 hP hD hS
  exact kp_ok (vs := vs) (vals := vals) 0 hv hqe
set_option maxHeartbeats 4000000 in
set_option maxRecDepth 100000 in
theorem c_X0_keep_5_1 (l : Launch) (D : va_G) (kI kJ kS : ClassId) (ho : Nat) (hr : Nat) (ao : Nat) (aa : Nat → Nat) (a_inputs : Int32) (a_remembered : Int32) (a_asks : Int32) (a_hours : Int32) (a_zeros : Nat → Int64) (a_ones : Nat → Int64) (a_alarms : Nat → Int32) (a_faults : Nat → Int32) (so : Nat → Nat) (sa : Nat → Nat → Nat) (vs : Nat → SV) (vals : Nat → SV) (hv : ∀ j, j < 1 → svEq (vs j) (vals j)) : gV l D (tyL kI kJ kS) yX0_keep wsX0_keep (rmk 2 5 24 32) [.ref ho, .ref ao] ((wX0 ho hr 1 ++ wX3 kI kJ ao aa a_inputs a_remembered a_asks a_hours a_zeros a_ones a_alarms a_faults) ++ (svA kS hr so 5 ++ svs kI kJ so sa vs 5)) (wX0 ho hr 2 ++ wX3 kI kJ ao aa a_inputs a_remembered a_asks a_hours a_zeros a_ones a_alarms a_faults) (TL kI kJ kS hr 2 (vup vals 1 (a_inputs, a_remembered, a_asks, a_hours, a_zeros, a_ones, a_alarms, a_faults))) := by
  refine gV_of (cc := cX0_keep) (maxL := 2) (by decide) rfl (Nat.le_of_ble_eq_true rfl) ?_
  intro p e s m av below meth c A Q ls hE hP hD hS hl hret
  have hE : ent_ p s m av meth c RX0 cX0_keep 2 none wsX0_keep (tyL kI kJ kS) D A true := hE
  obtain ⟨hx, hb, hml, hown, hts, hrt, hlocks, hK, hA, hst⟩ := id hE
  have hl : lv_has ls 2 [(0, .ref ho), (1, .ref ao)] := hl
  refine lv_aload_n hx hb dX0_keep_0 rfl (lv_at hl 0 rfl) ?_
  refine va_get (D := D) (ci := 0) (v := .int 1) (C := RX0) (T := TX0) (N := 2) hx hb hts iX0_keep_X0 hown hK hP 0 rfl rfl 1 (by decide) (hts _ mX0_keep_1) (fun _ h9 => h9) rfl dX0_keep_1 ?_
  refine lv_aload_n hx hb dX0_keep_4 rfl (lv_at hl 0 rfl) ?_
  refine va_get (D := D) (ci := 0) (v := .ref hr) (C := RX0) (T := TX0) (N := 2) hx hb hts iX0_keep_X0 hown hK hP 0 rfl rfl 0 (by decide) (hts _ mX0_keep_2) (fun _ h9 => h9) rfl dX0_keep_5 ?_
  refine va_alen (v := 6) hx hb hK hP 6 2 rfl rfl rfl dX0_keep_8 ?_
  refine lv_icmp_lt (tgt := 27) hx hb dX0_keep_9 (by decide) (fun _ => ?_) (fun hc => absurd hc (by decide))
  refine lv_aload_n hx hb dX0_keep_27 rfl (lv_at hl 0 rfl) ?_
  refine va_get (D := D) (ci := 0) (v := .int 1) (C := RX0) (T := TX0) (N := 2) hx hb hts iX0_keep_X0 hown hK hP 0 rfl rfl 1 (by decide) (hts _ mX0_keep_1) (fun _ h9 => h9) rfl dX0_keep_28 ?_
  refine lv_if_lt (tgt := 97) hx hb dX0_keep_31 (by decide) (fun hc => absurd hc (by decide)) (fun _ => ?_)
  refine lv_aload_n hx hb dX0_keep_34 rfl (lv_at hl 0 rfl) ?_
  refine va_get (D := D) (ci := 0) (v := .int 1) (C := RX0) (T := TX0) (N := 2) hx hb hts iX0_keep_X0 hown hK hP 0 rfl rfl 1 (by decide) (hts _ mX0_keep_1) (fun _ h9 => h9) rfl dX0_keep_35 ?_
  refine lv_aload_n hx hb dX0_keep_38 rfl (lv_at hl 0 rfl) ?_
  refine va_get (D := D) (ci := 0) (v := .ref hr) (C := RX0) (T := TX0) (N := 2) hx hb hts iX0_keep_X0 hown hK hP 0 rfl rfl 0 (by decide) (hts _ mX0_keep_2) (fun _ h9 => h9) rfl dX0_keep_39 ?_
  refine va_alen (v := 6) hx hb hK hP 6 2 rfl rfl rfl dX0_keep_42 ?_
  refine lv_icmp_ge (tgt := 97) hx hb dX0_keep_43 (by decide) (fun hc => absurd hc (by decide)) (fun _ => ?_)
  refine lv_aload_n hx hb dX0_keep_46 rfl (lv_at hl 0 rfl) ?_
  refine va_get (D := D) (ci := 0) (v := .ref hr) (C := RX0) (T := TX0) (N := 2) hx hb hts iX0_keep_X0 hown hK hP 0 rfl rfl 0 (by decide) (hts _ mX0_keep_2) (fun _ h9 => h9) rfl dX0_keep_47 ?_
  refine lv_aload_n hx hb dX0_keep_50 rfl (lv_at hl 0 rfl) ?_
  refine va_get (D := D) (ci := 0) (v := .int 1) (C := RX0) (T := TX0) (N := 2) hx hb hts iX0_keep_X0 hown hK hP 0 rfl rfl 1 (by decide) (hts _ mX0_keep_1) (fun _ h9 => h9) rfl dX0_keep_51 ?_
  refine va_aldq hx hb hK hP 6 2 rfl rfl (by unfold vp_in; decide) dX0_keep_54 ?_
  refine W.eq (g2 := F0 m 55 ls [.ref (so 1)]) rfl ?_
  refine lv_ifnonnull (tgt := 74) hx hb dX0_keep_55 (by decide) ?_
  refine lv_aload_n hx hb dX0_keep_74 rfl (lv_at hl 0 rfl) ?_
  refine va_get (D := D) (ci := 0) (v := .ref hr) (C := RX0) (T := TX0) (N := 2) hx hb hts iX0_keep_X0 hown hK hP 0 rfl rfl 0 (by decide) (hts _ mX0_keep_2) (fun _ h9 => h9) rfl dX0_keep_75 ?_
  refine lv_aload_n hx hb dX0_keep_78 rfl (lv_at hl 0 rfl) ?_
  refine va_get (D := D) (ci := 0) (v := .int 1) (C := RX0) (T := TX0) (N := 2) hx hb hts iX0_keep_X0 hown hK hP 0 rfl rfl 1 (by decide) (hts _ mX0_keep_1) (fun _ h9 => h9) rfl dX0_keep_79 ?_
  refine va_aldq hx hb hK hP 6 2 rfl rfl (by unfold vp_in; decide) dX0_keep_82 ?_
  refine W.eq (g2 := F0 m 83 ls [.ref (so 1)]) rfl ?_
  refine lv_aload_n hx hb dX0_keep_83 rfl (lv_at hl 1 rfl) ?_
  obtain ⟨q, hq, hqe⟩ := cfh_ex (vs 1).2.2.2.2.1 (vs 1).2.2.2.2.2.1 (vs 1).2.2.2.2.2.2.1 (vs 1).2.2.2.2.2.2.2 a_inputs a_remembered a_asks a_hours a_zeros a_ones a_alarms a_faults
  refine cV_callV (As := [.ref ao]) (rest := []) (wr := List.filterMap (fun i => (((wX0 ho hr 1 ++ wX3 kI kJ ao aa a_inputs a_remembered a_asks a_hours a_zeros a_ones a_alarms a_faults) ++ (svA kS hr so 5 ++ svs kI kJ so sa vs 5)))[i]?) [0, 6, 7, 8, 9, 10, 11, 17, 18, 19, 20, 21, 22, 23, 24, 25, 26, 27, 28, 29, 30, 31]) (wN := ((wX0 ho hr 1 ++ wX3 kI kJ ao aa a_inputs a_remembered a_asks a_hours a_zeros a_ones a_alarms a_faults) ++ (svA kS hr so 5 ++ svs kI kJ so sa (vup vs 1 q) 5))) (ci := 2) (q0 := 12) hE (c_X3_copyFrom l D kI kJ kS (so 1) (sa 1) ao aa (vs 1).1 (vs 1).2.1 (vs 1).2.2.1 (vs 1).2.2.2.1 (vs 1).2.2.2.2.1 (vs 1).2.2.2.2.2.1 (vs 1).2.2.2.2.2.2.1 (vs 1).2.2.2.2.2.2.2 a_inputs a_remembered a_asks a_hours a_zeros a_ones a_alarms a_faults hq) (cwV 1 hts gX0_keep_X3_copyFrom rfl rfl rfl (by decide +kernel) ⟨Nat.le_of_ble_eq_true rfl, Nat.le_of_ble_eq_true rfl⟩) hP hD hS [12, 13, 14, 15, 16, 1, 2, 3, 4, 5] [0, 6, 7, 8, 9, 10, 11, 17, 18, 19, 20, 21, 22, 23, 24, 25, 26, 27, 28, 29, 30, 31] [0, 27, 28, 29, 30, 31, 1, 2, 3, 4, 5, 6, 22, 23, 24, 25, 26, 7, 8, 9, 10, 11, 12, 13, 14, 15, 16, 17, 18, 19, 20, 21] rfl rfl rfl rfl (by decide) rfl rfl rfl rfl rfl hl.1 rfl (Nat.le_of_ble_eq_true rfl) dX0_keep_84 ⟨Nat.le_of_ble_eq_true rfl, Nat.le_of_ble_eq_true rfl⟩ (fun H locs hP hD hS => ?_)
  refine lv_aload_n hx hb dX0_keep_87 rfl (lv_at hl 0 rfl) ?_
  refine lv_dup hx hb dX0_keep_88 rfl ?_
  refine va_get (D := D) (ci := 0) (v := .int 1) (C := RX0) (T := TX0) (N := 2) hx hb hts iX0_keep_X0 hown hK hP 0 rfl rfl 1 (by decide) (hts _ mX0_keep_1) (fun _ h9 => h9) rfl dX0_keep_89 ?_
  refine lv_iconst (v := 1) hx hb dX0_keep_92 (by decide) ?_
  refine lv_iadd hx hb dX0_keep_93 ?_
  refine W.eq (g2 := F0 m 94 ls [.int 2, .ref ho]) rfl ?_
  refine va_put (D := D) (ci := 0) (v := .int 2) (ty := .int) (C := RX0) (T := TX0) (N := 2) hx hb hts iX0_keep_X0 tyX0 tyX0_ok nmX0 hown hK hP hD hS 0 rfl rfl 1 (by decide) (hts _ mX0_keep_1) (fun _ h9 => h9) rfl (by decide +kernel) rfl rfl (Nat.le_of_ble_eq_true rfl) dX0_keep_94 (fun H locs hP hD hS => ?_)
  have hP : va_P D vwCl ((wX0 ho hr 2 ++ wX3 kI kJ ao aa a_inputs a_remembered a_asks a_hours a_zeros a_ones a_alarms a_faults) ++ (svA kS hr so 5 ++ svs kI kJ so sa (vup vs 1 q) 5)) H := hP
  have hD : va_D A ((wX0 ho hr 2 ++ wX3 kI kJ ao aa a_inputs a_remembered a_asks a_hours a_zeros a_ones a_alarms a_faults) ++ (svA kS hr so 5 ++ svs kI kJ so sa (vup vs 1 q) 5)) := hD
  refine W.widen (k := 5) (n := 24) (Nat.le_of_ble_eq_true rfl) (Nat.le_of_ble_eq_true rfl) ?_
  refine hret _ _ _ _ (svA kS hr so 5 ++ svs kI kJ so sa (vup vs 1 q) 5) ⟨5, 2, so, sa, (vup vs 1 q), by decide, by decide, rfl, ?_, rfl⟩ dX0_keep_97 hP hD hS
  exact kp_ok (vs := vs) (vals := vals) 1 hv hqe
set_option maxHeartbeats 4000000 in
set_option maxRecDepth 100000 in
theorem c_X0_keep_5_2 (l : Launch) (D : va_G) (kI kJ kS : ClassId) (ho : Nat) (hr : Nat) (ao : Nat) (aa : Nat → Nat) (a_inputs : Int32) (a_remembered : Int32) (a_asks : Int32) (a_hours : Int32) (a_zeros : Nat → Int64) (a_ones : Nat → Int64) (a_alarms : Nat → Int32) (a_faults : Nat → Int32) (so : Nat → Nat) (sa : Nat → Nat → Nat) (vs : Nat → SV) (vals : Nat → SV) (hv : ∀ j, j < 2 → svEq (vs j) (vals j)) : gV l D (tyL kI kJ kS) yX0_keep wsX0_keep (rmk 2 5 24 32) [.ref ho, .ref ao] ((wX0 ho hr 2 ++ wX3 kI kJ ao aa a_inputs a_remembered a_asks a_hours a_zeros a_ones a_alarms a_faults) ++ (svA kS hr so 5 ++ svs kI kJ so sa vs 5)) (wX0 ho hr 3 ++ wX3 kI kJ ao aa a_inputs a_remembered a_asks a_hours a_zeros a_ones a_alarms a_faults) (TL kI kJ kS hr 3 (vup vals 2 (a_inputs, a_remembered, a_asks, a_hours, a_zeros, a_ones, a_alarms, a_faults))) := by
  refine gV_of (cc := cX0_keep) (maxL := 2) (by decide) rfl (Nat.le_of_ble_eq_true rfl) ?_
  intro p e s m av below meth c A Q ls hE hP hD hS hl hret
  have hE : ent_ p s m av meth c RX0 cX0_keep 2 none wsX0_keep (tyL kI kJ kS) D A true := hE
  obtain ⟨hx, hb, hml, hown, hts, hrt, hlocks, hK, hA, hst⟩ := id hE
  have hl : lv_has ls 2 [(0, .ref ho), (1, .ref ao)] := hl
  refine lv_aload_n hx hb dX0_keep_0 rfl (lv_at hl 0 rfl) ?_
  refine va_get (D := D) (ci := 0) (v := .int 2) (C := RX0) (T := TX0) (N := 2) hx hb hts iX0_keep_X0 hown hK hP 0 rfl rfl 1 (by decide) (hts _ mX0_keep_1) (fun _ h9 => h9) rfl dX0_keep_1 ?_
  refine lv_aload_n hx hb dX0_keep_4 rfl (lv_at hl 0 rfl) ?_
  refine va_get (D := D) (ci := 0) (v := .ref hr) (C := RX0) (T := TX0) (N := 2) hx hb hts iX0_keep_X0 hown hK hP 0 rfl rfl 0 (by decide) (hts _ mX0_keep_2) (fun _ h9 => h9) rfl dX0_keep_5 ?_
  refine va_alen (v := 6) hx hb hK hP 6 2 rfl rfl rfl dX0_keep_8 ?_
  refine lv_icmp_lt (tgt := 27) hx hb dX0_keep_9 (by decide) (fun _ => ?_) (fun hc => absurd hc (by decide))
  refine lv_aload_n hx hb dX0_keep_27 rfl (lv_at hl 0 rfl) ?_
  refine va_get (D := D) (ci := 0) (v := .int 2) (C := RX0) (T := TX0) (N := 2) hx hb hts iX0_keep_X0 hown hK hP 0 rfl rfl 1 (by decide) (hts _ mX0_keep_1) (fun _ h9 => h9) rfl dX0_keep_28 ?_
  refine lv_if_lt (tgt := 97) hx hb dX0_keep_31 (by decide) (fun hc => absurd hc (by decide)) (fun _ => ?_)
  refine lv_aload_n hx hb dX0_keep_34 rfl (lv_at hl 0 rfl) ?_
  refine va_get (D := D) (ci := 0) (v := .int 2) (C := RX0) (T := TX0) (N := 2) hx hb hts iX0_keep_X0 hown hK hP 0 rfl rfl 1 (by decide) (hts _ mX0_keep_1) (fun _ h9 => h9) rfl dX0_keep_35 ?_
  refine lv_aload_n hx hb dX0_keep_38 rfl (lv_at hl 0 rfl) ?_
  refine va_get (D := D) (ci := 0) (v := .ref hr) (C := RX0) (T := TX0) (N := 2) hx hb hts iX0_keep_X0 hown hK hP 0 rfl rfl 0 (by decide) (hts _ mX0_keep_2) (fun _ h9 => h9) rfl dX0_keep_39 ?_
  refine va_alen (v := 6) hx hb hK hP 6 2 rfl rfl rfl dX0_keep_42 ?_
  refine lv_icmp_ge (tgt := 97) hx hb dX0_keep_43 (by decide) (fun hc => absurd hc (by decide)) (fun _ => ?_)
  refine lv_aload_n hx hb dX0_keep_46 rfl (lv_at hl 0 rfl) ?_
  refine va_get (D := D) (ci := 0) (v := .ref hr) (C := RX0) (T := TX0) (N := 2) hx hb hts iX0_keep_X0 hown hK hP 0 rfl rfl 0 (by decide) (hts _ mX0_keep_2) (fun _ h9 => h9) rfl dX0_keep_47 ?_
  refine lv_aload_n hx hb dX0_keep_50 rfl (lv_at hl 0 rfl) ?_
  refine va_get (D := D) (ci := 0) (v := .int 2) (C := RX0) (T := TX0) (N := 2) hx hb hts iX0_keep_X0 hown hK hP 0 rfl rfl 1 (by decide) (hts _ mX0_keep_1) (fun _ h9 => h9) rfl dX0_keep_51 ?_
  refine va_aldq hx hb hK hP 6 2 rfl rfl (by unfold vp_in; decide) dX0_keep_54 ?_
  refine W.eq (g2 := F0 m 55 ls [.ref (so 2)]) rfl ?_
  refine lv_ifnonnull (tgt := 74) hx hb dX0_keep_55 (by decide) ?_
  refine lv_aload_n hx hb dX0_keep_74 rfl (lv_at hl 0 rfl) ?_
  refine va_get (D := D) (ci := 0) (v := .ref hr) (C := RX0) (T := TX0) (N := 2) hx hb hts iX0_keep_X0 hown hK hP 0 rfl rfl 0 (by decide) (hts _ mX0_keep_2) (fun _ h9 => h9) rfl dX0_keep_75 ?_
  refine lv_aload_n hx hb dX0_keep_78 rfl (lv_at hl 0 rfl) ?_
  refine va_get (D := D) (ci := 0) (v := .int 2) (C := RX0) (T := TX0) (N := 2) hx hb hts iX0_keep_X0 hown hK hP 0 rfl rfl 1 (by decide) (hts _ mX0_keep_1) (fun _ h9 => h9) rfl dX0_keep_79 ?_
  refine va_aldq hx hb hK hP 6 2 rfl rfl (by unfold vp_in; decide) dX0_keep_82 ?_
  refine W.eq (g2 := F0 m 83 ls [.ref (so 2)]) rfl ?_
  refine lv_aload_n hx hb dX0_keep_83 rfl (lv_at hl 1 rfl) ?_
  obtain ⟨q, hq, hqe⟩ := cfh_ex (vs 2).2.2.2.2.1 (vs 2).2.2.2.2.2.1 (vs 2).2.2.2.2.2.2.1 (vs 2).2.2.2.2.2.2.2 a_inputs a_remembered a_asks a_hours a_zeros a_ones a_alarms a_faults
  refine cV_callV (As := [.ref ao]) (rest := []) (wr := List.filterMap (fun i => (((wX0 ho hr 2 ++ wX3 kI kJ ao aa a_inputs a_remembered a_asks a_hours a_zeros a_ones a_alarms a_faults) ++ (svA kS hr so 5 ++ svs kI kJ so sa vs 5)))[i]?) [0, 6, 7, 8, 9, 10, 11, 12, 13, 14, 15, 16, 22, 23, 24, 25, 26, 27, 28, 29, 30, 31]) (wN := ((wX0 ho hr 2 ++ wX3 kI kJ ao aa a_inputs a_remembered a_asks a_hours a_zeros a_ones a_alarms a_faults) ++ (svA kS hr so 5 ++ svs kI kJ so sa (vup vs 2 q) 5))) (ci := 2) (q0 := 17) hE (c_X3_copyFrom l D kI kJ kS (so 2) (sa 2) ao aa (vs 2).1 (vs 2).2.1 (vs 2).2.2.1 (vs 2).2.2.2.1 (vs 2).2.2.2.2.1 (vs 2).2.2.2.2.2.1 (vs 2).2.2.2.2.2.2.1 (vs 2).2.2.2.2.2.2.2 a_inputs a_remembered a_asks a_hours a_zeros a_ones a_alarms a_faults hq) (cwV 1 hts gX0_keep_X3_copyFrom rfl rfl rfl (by decide +kernel) ⟨Nat.le_of_ble_eq_true rfl, Nat.le_of_ble_eq_true rfl⟩) hP hD hS [17, 18, 19, 20, 21, 1, 2, 3, 4, 5] [0, 6, 7, 8, 9, 10, 11, 12, 13, 14, 15, 16, 22, 23, 24, 25, 26, 27, 28, 29, 30, 31] [0, 27, 28, 29, 30, 31, 1, 2, 3, 4, 5, 6, 7, 8, 9, 10, 11, 22, 23, 24, 25, 26, 12, 13, 14, 15, 16, 17, 18, 19, 20, 21] rfl rfl rfl rfl (by decide) rfl rfl rfl rfl rfl hl.1 rfl (Nat.le_of_ble_eq_true rfl) dX0_keep_84 ⟨Nat.le_of_ble_eq_true rfl, Nat.le_of_ble_eq_true rfl⟩ (fun H locs hP hD hS => ?_)
  refine lv_aload_n hx hb dX0_keep_87 rfl (lv_at hl 0 rfl) ?_
  refine lv_dup hx hb dX0_keep_88 rfl ?_
  refine va_get (D := D) (ci := 0) (v := .int 2) (C := RX0) (T := TX0) (N := 2) hx hb hts iX0_keep_X0 hown hK hP 0 rfl rfl 1 (by decide) (hts _ mX0_keep_1) (fun _ h9 => h9) rfl dX0_keep_89 ?_
  refine lv_iconst (v := 1) hx hb dX0_keep_92 (by decide) ?_
  refine lv_iadd hx hb dX0_keep_93 ?_
  refine W.eq (g2 := F0 m 94 ls [.int 3, .ref ho]) rfl ?_
  refine va_put (D := D) (ci := 0) (v := .int 3) (ty := .int) (C := RX0) (T := TX0) (N := 2) hx hb hts iX0_keep_X0 tyX0 tyX0_ok nmX0 hown hK hP hD hS 0 rfl rfl 1 (by decide) (hts _ mX0_keep_1) (fun _ h9 => h9) rfl (by decide +kernel) rfl rfl (Nat.le_of_ble_eq_true rfl) dX0_keep_94 (fun H locs hP hD hS => ?_)
  have hP : va_P D vwCl ((wX0 ho hr 3 ++ wX3 kI kJ ao aa a_inputs a_remembered a_asks a_hours a_zeros a_ones a_alarms a_faults) ++ (svA kS hr so 5 ++ svs kI kJ so sa (vup vs 2 q) 5)) H := hP
  have hD : va_D A ((wX0 ho hr 3 ++ wX3 kI kJ ao aa a_inputs a_remembered a_asks a_hours a_zeros a_ones a_alarms a_faults) ++ (svA kS hr so 5 ++ svs kI kJ so sa (vup vs 2 q) 5)) := hD
  refine W.widen (k := 5) (n := 24) (Nat.le_of_ble_eq_true rfl) (Nat.le_of_ble_eq_true rfl) ?_
  refine hret _ _ _ _ (svA kS hr so 5 ++ svs kI kJ so sa (vup vs 2 q) 5) ⟨5, 3, so, sa, (vup vs 2 q), by decide, by decide, rfl, ?_, rfl⟩ dX0_keep_97 hP hD hS
  exact kp_ok (vs := vs) (vals := vals) 2 hv hqe
