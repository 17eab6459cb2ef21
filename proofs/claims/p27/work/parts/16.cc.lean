theorem mX5_sizeOf_3 : Cond.initialized RX6 ∈ wsX5_sizeOf := List.mem_of_getElem? (i := 3) rfl
theorem mX5_sizeOf_2 : Cond.static yX6_isOutput ∈ wsX5_sizeOf := List.mem_of_getElem? (i := 2) rfl
theorem mX5_sizeOf_1 : Cond.fieldLink RX5 28 "GateMaze$View" "sizes" "[I" ∈ wsX5_sizeOf := List.mem_of_getElem? (i := 1) rfl
theorem iX5_sizeOf_X5 : ∀ w ∈ u_ws RX5 TX5 12, w ∈ wsX5_sizeOf := fun w h => List.mem_cons_of_mem _ (List.mem_append_right _ h)
set_option maxHeartbeats 4000000 in
set_option maxRecDepth 100000 in
theorem c_X5_sizeOf (l : Launch) (D : va_G) (kI kJ kS : ClassId) (to : Nat) (ta : Nat → Nat) (x1 : Int32) (t_inputs : Int32) (t_undecidedPairs : Int32) (t_parts : Int32) (t_sharedParts : Int32) (t_partCares : Int32) (t_zeros : (Nat → Int64)) (t_ones : (Nat → Int64)) (t_undecided : (Nat → Int64)) (t_answers : (Nat → Int64)) (t_primeCounts : (Nat → Int32)) (t_sizes : (Nat → Int32)) (t_codes : (Nat → Int32)) {r : Int32} (hrun : fX5_sizeOf t_sizes x1 = some r) : cI l D (tyL kI kJ kS) true yX5_sizeOf wsX5_sizeOf (rmk 1 0 0 20) [.ref to, .int x1] (wX5 kI kJ to ta t_inputs t_undecidedPairs t_parts t_sharedParts t_partCares t_zeros t_ones t_undecided t_answers t_primeCounts t_sizes t_codes) (wX5 kI kJ to ta t_inputs t_undecidedPairs t_parts t_sharedParts t_partCares t_zeros t_ones t_undecided t_answers t_primeCounts t_sizes t_codes) r := by
  refine cI_of (cc := cX5_sizeOf) (maxL := 2) (by decide) rfl (Nat.le_of_ble_eq_true rfl) ?_
  intro p e s m av below meth c A Q ls hE hP hD hS hl hret
  have hE : ent_ p s m av meth c RX5 cX5_sizeOf 2 (some .int) wsX5_sizeOf (tyL kI kJ kS) D A true := hE
  obtain ⟨hx, hb, hml, hown, hts, hr, hlocks, hK, hA, hst⟩ := id hE
  have hl : lv_has ls 2 [(0, .ref to), (1, .int x1)] := hl
  obtain ⟨⟨⟨tW, hZ, hT⟩, hU1, hU2⟩, hnk⟩ := hst rfl
  unfold fX5_sizeOf at hrun
  refine lv_iload_n hx hb dX5_sizeOf_0 rfl (lv_at hl 1 rfl) ?_
  obtain ⟨q_1, hq_1, hrun⟩ := bd_some hrun
  refine cI_callSN (As := [.int x1]) (rest := []) (wr := (wX5 kI kJ to ta t_inputs t_undecidedPairs t_parts t_sharedParts t_partCares t_zeros t_ones t_undecided t_answers t_primeCounts t_sizes t_codes)) (wN := (wX5 kI kJ to ta t_inputs t_undecidedPairs t_parts t_sharedParts t_partCares t_zeros t_ones t_undecided t_answers t_primeCounts t_sizes t_codes)) hE (c_X6_isOutput l D kI kJ kS x1  hq_1) ⟨va_cnB 1 hts ggX5_sizeOf_X6_isOutput rfl rfl rfl (nm_6 hnk) (hts _ mX5_sizeOf_3) (by decide +kernel) ⟨Nat.le_of_ble_eq_true rfl, Nat.le_of_ble_eq_true rfl⟩, hts _ mX5_sizeOf_2, trivial⟩ hP hD hS [] [0, 1, 2, 3, 4, 5, 6, 7] [0, 1, 2, 3, 4, 5, 6, 7] rfl rfl rfl rfl (by decide) rfl rfl rfl hl.1 rfl (Nat.le_of_ble_eq_true rfl) dX5_sizeOf_1 ⟨Nat.le_of_ble_eq_true rfl, Nat.le_of_ble_eq_true rfl⟩ (fun H locs hP hD hS => ?_)
  refine lv_if_eq (tgt := 16) hx hb dX5_sizeOf_4 (by decide) (fun hc => ?_) (fun hc => ?_)
  · have hrun := it_t hc hrun
    refine lv_iconst (v := 0) hx hb dX5_sizeOf_16 (by decide) ?_
    obtain rfl := Option.some.inj hrun
    exact hret _ _ _ _ rfl dX5_sizeOf_17 hP hD hS
  · have hrun := it_f hc hrun
    refine lv_aload_n hx hb dX5_sizeOf_7 rfl (lv_at hl 0 rfl) ?_
    refine va_get (D := D) (ci := 4) (v := .ref (ta 5)) (C := RX5) (T := TX5) (N := 12) hx hb hts iX5_sizeOf_X5 hown hK hP 0 rfl rfl 10 (by decide) (hts _ mX5_sizeOf_1) (fun _ h9 => h9) rfl dX5_sizeOf_8 ?_
    refine lv_iload_n hx hb dX5_sizeOf_11 rfl (lv_at hl 1 rfl) ?_
    obtain ⟨hin, hrun⟩ := gd_some hrun
    refine va_iald hx hb hK hP 6 0 rfl rfl hin dX5_sizeOf_12 ?_
    refine lv_goto (tgt := 17) hx hb dX5_sizeOf_13 (by decide) ?_
    obtain rfl := Option.some.inj hrun
    exact hret _ _ _ _ rfl dX5_sizeOf_17 hP hD hS
theorem mX5_answersOf_3 : Cond.initialized RX6 ∈ wsX5_answersOf := List.mem_of_getElem? (i := 3) rfl
theorem mX5_answersOf_2 : Cond.static yX6_isOutput ∈ wsX5_answersOf := List.mem_of_getElem? (i := 2) rfl
theorem mX5_answersOf_1 : Cond.fieldLink RX5 21 "GateMaze$View" "answers" "[J" ∈ wsX5_answersOf := List.mem_of_getElem? (i := 1) rfl
theorem iX5_answersOf_X5 : ∀ w ∈ u_ws RX5 TX5 12, w ∈ wsX5_answersOf := fun w h => List.mem_cons_of_mem _ (List.mem_append_right _ h)
set_option maxHeartbeats 4000000 in
set_option maxRecDepth 100000 in
theorem c_X5_answersOf (l : Launch) (D : va_G) (kI kJ kS : ClassId) (to : Nat) (ta : Nat → Nat) (x1 : Int32) (t_inputs : Int32) (t_undecidedPairs : Int32) (t_parts : Int32) (t_sharedParts : Int32) (t_partCares : Int32) (t_zeros : (Nat → Int64)) (t_ones : (Nat → Int64)) (t_undecided : (Nat → Int64)) (t_answers : (Nat → Int64)) (t_primeCounts : (Nat → Int32)) (t_sizes : (Nat → Int32)) (t_codes : (Nat → Int32)) {r : Int64} (hrun : fX5_answersOf t_answers x1 = some r) : cL l D (tyL kI kJ kS) true yX5_answersOf wsX5_answersOf (rmk 1 0 0 20) [.ref to, .int x1] (wX5 kI kJ to ta t_inputs t_undecidedPairs t_parts t_sharedParts t_partCares t_zeros t_ones t_undecided t_answers t_primeCounts t_sizes t_codes) (wX5 kI kJ to ta t_inputs t_undecidedPairs t_parts t_sharedParts t_partCares t_zeros t_ones t_undecided t_answers t_primeCounts t_sizes t_codes) r := by
  refine cL_of (cc := cX5_answersOf) (maxL := 2) (by decide) rfl (Nat.le_of_ble_eq_true rfl) ?_
  intro p e s m av below meth c A Q ls hE hP hD hS hl hret
  have hE : ent_ p s m av meth c RX5 cX5_answersOf 2 (some .long) wsX5_answersOf (tyL kI kJ kS) D A true := hE
  obtain ⟨hx, hb, hml, hown, hts, hr, hlocks, hK, hA, hst⟩ := id hE
  have hl : lv_has ls 2 [(0, .ref to), (1, .int x1)] := hl
  obtain ⟨⟨⟨tW, hZ, hT⟩, hU1, hU2⟩, hnk⟩ := hst rfl
  unfold fX5_answersOf at hrun
  refine lv_iload_n hx hb dX5_answersOf_0 rfl (lv_at hl 1 rfl) ?_
  obtain ⟨q_1, hq_1, hrun⟩ := bd_some hrun
  refine cI_callSN (As := [.int x1]) (rest := []) (wr := (wX5 kI kJ to ta t_inputs t_undecidedPairs t_parts t_sharedParts t_partCares t_zeros t_ones t_undecided t_answers t_primeCounts t_sizes t_codes)) (wN := (wX5 kI kJ to ta t_inputs t_undecidedPairs t_parts t_sharedParts t_partCares t_zeros t_ones t_undecided t_answers t_primeCounts t_sizes t_codes)) hE (c_X6_isOutput l D kI kJ kS x1  hq_1) ⟨va_cnB 1 hts ggX5_answersOf_X6_isOutput rfl rfl rfl (nm_6 hnk) (hts _ mX5_answersOf_3) (by decide +kernel) ⟨Nat.le_of_ble_eq_true rfl, Nat.le_of_ble_eq_true rfl⟩, hts _ mX5_answersOf_2, trivial⟩ hP hD hS [] [0, 1, 2, 3, 4, 5, 6, 7] [0, 1, 2, 3, 4, 5, 6, 7] rfl rfl rfl rfl (by decide) rfl rfl rfl hl.1 rfl (Nat.le_of_ble_eq_true rfl) dX5_answersOf_1 ⟨Nat.le_of_ble_eq_true rfl, Nat.le_of_ble_eq_true rfl⟩ (fun H locs hP hD hS => ?_)
  refine lv_if_eq (tgt := 16) hx hb dX5_answersOf_4 (by decide) (fun hc => ?_) (fun hc => ?_)
  · have hrun := it_t hc hrun
    refine lv_lconst (v := 0) hx hb dX5_answersOf_16 (by decide) ?_
    obtain rfl := Option.some.inj hrun
    exact hret _ _ _ _ dX5_answersOf_17 hP hD hS
  · have hrun := it_f hc hrun
    refine lv_aload_n hx hb dX5_answersOf_7 rfl (lv_at hl 0 rfl) ?_
    refine va_get (D := D) (ci := 4) (v := .ref (ta 3)) (C := RX5) (T := TX5) (N := 12) hx hb hts iX5_answersOf_X5 hown hK hP 0 rfl rfl 8 (by decide) (hts _ mX5_answersOf_1) (fun _ h9 => h9) rfl dX5_answersOf_8 ?_
    refine lv_iload_n hx hb dX5_answersOf_11 rfl (lv_at hl 1 rfl) ?_
    obtain ⟨hin, hrun⟩ := gd_some hrun
    refine va_lald hx hb hK hP 4 1 rfl rfl hin dX5_answersOf_12 ?_
    refine lv_goto (tgt := 17) hx hb dX5_answersOf_13 (by decide) ?_
    obtain rfl := Option.some.inj hrun
    exact hret _ _ _ _ dX5_answersOf_17 hP hD hS
theorem mX5_codeAt_4 : Cond.initialized RX6 ∈ wsX5_codeAt := List.mem_of_getElem? (i := 4) rfl
theorem mX5_codeAt_3 : Cond.static yX6_isOutput ∈ wsX5_codeAt := List.mem_of_getElem? (i := 3) rfl
theorem mX5_codeAt_1 : Cond.fieldLink RX5 28 "GateMaze$View" "sizes" "[I" ∈ wsX5_codeAt := List.mem_of_getElem? (i := 1) rfl
theorem mX5_codeAt_2 : Cond.fieldLink RX5 31 "GateMaze$View" "codes" "[I" ∈ wsX5_codeAt := List.mem_of_getElem? (i := 2) rfl
theorem iX5_codeAt_X5 : ∀ w ∈ u_ws RX5 TX5 12, w ∈ wsX5_codeAt := fun w h => List.mem_cons_of_mem _ (List.mem_append_right _ h)
set_option maxHeartbeats 4000000 in
set_option maxRecDepth 100000 in
theorem c_X5_codeAt (l : Launch) (D : va_G) (kI kJ kS : ClassId) (to : Nat) (ta : Nat → Nat) (x1 : Int32) (x2 : Int32) (t_inputs : Int32) (t_undecidedPairs : Int32) (t_parts : Int32) (t_sharedParts : Int32) (t_partCares : Int32) (t_zeros : (Nat → Int64)) (t_ones : (Nat → Int64)) (t_undecided : (Nat → Int64)) (t_answers : (Nat → Int64)) (t_primeCounts : (Nat → Int32)) (t_sizes : (Nat → Int32)) (t_codes : (Nat → Int32)) {r : Int32} (hrun : fX5_codeAt t_sizes t_codes x1 x2 = some r) : cI l D (tyL kI kJ kS) true yX5_codeAt wsX5_codeAt (rmk 1 0 0 20) [.ref to, .int x1, .int x2] (wX5 kI kJ to ta t_inputs t_undecidedPairs t_parts t_sharedParts t_partCares t_zeros t_ones t_undecided t_answers t_primeCounts t_sizes t_codes) (wX5 kI kJ to ta t_inputs t_undecidedPairs t_parts t_sharedParts t_partCares t_zeros t_ones t_undecided t_answers t_primeCounts t_sizes t_codes) r := by
  refine cI_of (cc := cX5_codeAt) (maxL := 3) (by decide) rfl (Nat.le_of_ble_eq_true rfl) ?_
  intro p e s m av below meth c A Q ls hE hP hD hS hl hret
  have hE : ent_ p s m av meth c RX5 cX5_codeAt 3 (some .int) wsX5_codeAt (tyL kI kJ kS) D A true := hE
  obtain ⟨hx, hb, hml, hown, hts, hr, hlocks, hK, hA, hst⟩ := id hE
  have hl : lv_has ls 3 [(0, .ref to), (1, .int x1), (2, .int x2)] := hl
  obtain ⟨⟨⟨tW, hZ, hT⟩, hU1, hU2⟩, hnk⟩ := hst rfl
  unfold fX5_codeAt at hrun
  refine lv_iload_n hx hb dX5_codeAt_0 rfl (lv_at hl 1 rfl) ?_
  obtain ⟨q_1, hq_1, hrun⟩ := bd_some hrun
  refine cI_callSN (As := [.int x1]) (rest := []) (wr := (wX5 kI kJ to ta t_inputs t_undecidedPairs t_parts t_sharedParts t_partCares t_zeros t_ones t_undecided t_answers t_primeCounts t_sizes t_codes)) (wN := (wX5 kI kJ to ta t_inputs t_undecidedPairs t_parts t_sharedParts t_partCares t_zeros t_ones t_undecided t_answers t_primeCounts t_sizes t_codes)) hE (c_X6_isOutput l D kI kJ kS x1  hq_1) ⟨va_cnB 1 hts ggX5_codeAt_X6_isOutput rfl rfl rfl (nm_6 hnk) (hts _ mX5_codeAt_4) (by decide +kernel) ⟨Nat.le_of_ble_eq_true rfl, Nat.le_of_ble_eq_true rfl⟩, hts _ mX5_codeAt_3, trivial⟩ hP hD hS [] [0, 1, 2, 3, 4, 5, 6, 7] [0, 1, 2, 3, 4, 5, 6, 7] rfl rfl rfl rfl (by decide) rfl rfl rfl hl.1 rfl (Nat.le_of_ble_eq_true rfl) dX5_codeAt_1 ⟨Nat.le_of_ble_eq_true rfl, Nat.le_of_ble_eq_true rfl⟩ (fun H locs hP hD hS => ?_)
  refine lv_if_eq (tgt := 27) hx hb dX5_codeAt_4 (by decide) (fun hc => ?_) (fun hc => ?_)
  · have hrun := it_t hc hrun
    refine lv_iconst (v := (-1)) hx hb dX5_codeAt_27 (by decide) ?_
    obtain rfl := Option.some.inj hrun
    exact hret _ _ _ _ rfl dX5_codeAt_28 hP hD hS
  · have hrun := it_f hc hrun
    refine lv_iload_n hx hb dX5_codeAt_7 rfl (lv_at hl 2 rfl) ?_
    refine lv_if_lt (tgt := 27) hx hb dX5_codeAt_8 (by decide) (fun hc => ?_) (fun hc => ?_)
    · have hrun := it_t hc hrun
      refine lv_iconst (v := (-1)) hx hb dX5_codeAt_27 (by decide) ?_
      obtain rfl := Option.some.inj hrun
      exact hret _ _ _ _ rfl dX5_codeAt_28 hP hD hS
    · have hrun := it_f hc hrun
      refine lv_iload_n hx hb dX5_codeAt_11 rfl (lv_at hl 2 rfl) ?_
      refine lv_bipush (v := 64) hx hb dX5_codeAt_12 (by decide) ?_
      refine lv_icmp_ge (tgt := 27) hx hb dX5_codeAt_14 (by decide) (fun hc => ?_) (fun hc => ?_)
      · have hrun := it_t hc hrun
        refine lv_iconst (v := (-1)) hx hb dX5_codeAt_27 (by decide) ?_
        obtain rfl := Option.some.inj hrun
        exact hret _ _ _ _ rfl dX5_codeAt_28 hP hD hS
      · have hrun := it_f hc hrun
        refine lv_iload_n hx hb dX5_codeAt_17 rfl (lv_at hl 2 rfl) ?_
        refine lv_aload_n hx hb dX5_codeAt_18 rfl (lv_at hl 0 rfl) ?_
        refine va_get (D := D) (ci := 4) (v := .ref (ta 5)) (C := RX5) (T := TX5) (N := 12) hx hb hts iX5_codeAt_X5 hown hK hP 0 rfl rfl 10 (by decide) (hts _ mX5_codeAt_1) (fun _ h9 => h9) rfl dX5_codeAt_19 ?_
        refine lv_iload_n hx hb dX5_codeAt_22 rfl (lv_at hl 1 rfl) ?_
        obtain ⟨hin, hrun⟩ := gd_some hrun
        refine va_iald hx hb hK hP 6 0 rfl rfl hin dX5_codeAt_23 ?_
        refine lv_icmp_lt (tgt := 29) hx hb dX5_codeAt_24 (by decide) (fun hc => ?_) (fun hc => ?_)
        · have hrun := it_t hc hrun
          refine lv_aload_n hx hb dX5_codeAt_29 rfl (lv_at hl 0 rfl) ?_
          refine va_get (D := D) (ci := 4) (v := .ref (ta 6)) (C := RX5) (T := TX5) (N := 12) hx hb hts iX5_codeAt_X5 hown hK hP 0 rfl rfl 11 (by decide) (hts _ mX5_codeAt_2) (fun _ h9 => h9) rfl dX5_codeAt_30 ?_
          refine lv_iload_n hx hb dX5_codeAt_33 rfl (lv_at hl 1 rfl) ?_
          refine lv_bipush (v := 64) hx hb dX5_codeAt_34 (by decide) ?_
          refine lv_imul hx hb dX5_codeAt_36 ?_
          refine lv_iload_n hx hb dX5_codeAt_37 rfl (lv_at hl 2 rfl) ?_
          refine lv_iadd hx hb dX5_codeAt_38 ?_
          obtain ⟨hin, hrun⟩ := gd_some hrun
          refine va_iald hx hb hK hP 7 0 rfl rfl hin dX5_codeAt_39 ?_
          obtain rfl := Option.some.inj hrun
          exact hret _ _ _ _ rfl dX5_codeAt_40 hP hD hS
        · have hrun := it_f hc hrun
          refine lv_iconst (v := (-1)) hx hb dX5_codeAt_27 (by decide) ?_
          obtain rfl := Option.some.inj hrun
          exact hret _ _ _ _ rfl dX5_codeAt_28 hP hD hS
theorem mX5_decidedAt_5 : Cond.initialized RX6 ∈ wsX5_decidedAt := List.mem_of_getElem? (i := 5) rfl
theorem mX5_decidedAt_4 : Cond.static yX6_isOutput ∈ wsX5_decidedAt := List.mem_of_getElem? (i := 4) rfl
theorem mX5_decidedAt_1 : Cond.fieldLink RX5 18 "GateMaze$View" "undecided" "[J" ∈ wsX5_decidedAt := List.mem_of_getElem? (i := 1) rfl
theorem mX5_decidedAt_2 : Cond.fieldLink RX5 15 "GateMaze$View" "ones" "[J" ∈ wsX5_decidedAt := List.mem_of_getElem? (i := 2) rfl
theorem mX5_decidedAt_3 : Cond.fieldLink RX5 9 "GateMaze$View" "zeros" "[J" ∈ wsX5_decidedAt := List.mem_of_getElem? (i := 3) rfl
theorem iX5_decidedAt_X5 : ∀ w ∈ u_ws RX5 TX5 12, w ∈ wsX5_decidedAt := fun w h => List.mem_cons_of_mem _ (List.mem_append_right _ h)
set_option maxHeartbeats 4000000 in
set_option maxRecDepth 100000 in
theorem c_X5_decidedAt (l : Launch) (D : va_G) (kI kJ kS : ClassId) (to : Nat) (ta : Nat → Nat) (x1 : Int32) (x2 : Int32) (t_inputs : Int32) (t_undecidedPairs : Int32) (t_parts : Int32) (t_sharedParts : Int32) (t_partCares : Int32) (t_zeros : (Nat → Int64)) (t_ones : (Nat → Int64)) (t_undecided : (Nat → Int64)) (t_answers : (Nat → Int64)) (t_primeCounts : (Nat → Int32)) (t_sizes : (Nat → Int32)) (t_codes : (Nat → Int32)) {r : Int32} (hrun : fX5_decidedAt t_zeros t_ones t_undecided x1 x2 = some r) : cI l D (tyL kI kJ kS) true yX5_decidedAt wsX5_decidedAt (rmk 1 0 0 20) [.ref to, .int x1, .int x2] (wX5 kI kJ to ta t_inputs t_undecidedPairs t_parts t_sharedParts t_partCares t_zeros t_ones t_undecided t_answers t_primeCounts t_sizes t_codes) (wX5 kI kJ to ta t_inputs t_undecidedPairs t_parts t_sharedParts t_partCares t_zeros t_ones t_undecided t_answers t_primeCounts t_sizes t_codes) r := by
  refine cI_of (cc := cX5_decidedAt) (maxL := 3) (by decide) rfl (Nat.le_of_ble_eq_true rfl) ?_
  intro p e s m av below meth c A Q ls hE hP hD hS hl hret
  have hE : ent_ p s m av meth c RX5 cX5_decidedAt 3 (some .int) wsX5_decidedAt (tyL kI kJ kS) D A true := hE
  obtain ⟨hx, hb, hml, hown, hts, hr, hlocks, hK, hA, hst⟩ := id hE
  have hl : lv_has ls 3 [(0, .ref to), (1, .int x1), (2, .int x2)] := hl
  obtain ⟨⟨⟨tW, hZ, hT⟩, hU1, hU2⟩, hnk⟩ := hst rfl
  unfold fX5_decidedAt at hrun
  refine lv_iload_n hx hb dX5_decidedAt_0 rfl (lv_at hl 1 rfl) ?_
  obtain ⟨q_1, hq_1, hrun⟩ := bd_some hrun
  refine cI_callSN (As := [.int x1]) (rest := []) (wr := (wX5 kI kJ to ta t_inputs t_undecidedPairs t_parts t_sharedParts t_partCares t_zeros t_ones t_undecided t_answers t_primeCounts t_sizes t_codes)) (wN := (wX5 kI kJ to ta t_inputs t_undecidedPairs t_parts t_sharedParts t_partCares t_zeros t_ones t_undecided t_answers t_primeCounts t_sizes t_codes)) hE (c_X6_isOutput l D kI kJ kS x1  hq_1) ⟨va_cnB 1 hts ggX5_decidedAt_X6_isOutput rfl rfl rfl (nm_6 hnk) (hts _ mX5_decidedAt_5) (by decide +kernel) ⟨Nat.le_of_ble_eq_true rfl, Nat.le_of_ble_eq_true rfl⟩, hts _ mX5_decidedAt_4, trivial⟩ hP hD hS [] [0, 1, 2, 3, 4, 5, 6, 7] [0, 1, 2, 3, 4, 5, 6, 7] rfl rfl rfl rfl (by decide) rfl rfl rfl hl.1 rfl (Nat.le_of_ble_eq_true rfl) dX5_decidedAt_1 ⟨Nat.le_of_ble_eq_true rfl, Nat.le_of_ble_eq_true rfl⟩ (fun H locs hP hD hS => ?_)
  refine lv_if_ne (tgt := 9) hx hb dX5_decidedAt_4 (by decide) (fun hc => ?_) (fun hc => ?_)
  · have hrun := it_f hc hrun
    refine lv_aload_n hx hb dX5_decidedAt_9 rfl (lv_at hl 0 rfl) ?_
    refine va_get (D := D) (ci := 4) (v := .ref (ta 2)) (C := RX5) (T := TX5) (N := 12) hx hb hts iX5_decidedAt_X5 hown hK hP 0 rfl rfl 7 (by decide) (hts _ mX5_decidedAt_1) (fun _ h9 => h9) rfl dX5_decidedAt_10 ?_
    refine lv_iload_n hx hb dX5_decidedAt_13 rfl (lv_at hl 1 rfl) ?_
    obtain ⟨hin, hrun⟩ := gd_some hrun
    refine va_lald hx hb hK hP 3 1 rfl rfl hin dX5_decidedAt_14 ?_
    refine lv_iload_n hx hb dX5_decidedAt_15 rfl (lv_at hl 2 rfl) ?_
    refine lv_lushr hx hb dX5_decidedAt_16 rfl ?_
    refine lv_lconst (v := 1) hx hb dX5_decidedAt_17 (by decide) ?_
    refine lv_land hx hb dX5_decidedAt_18 ?_
    refine lv_lconst (v := 0) hx hb dX5_decidedAt_19 (by decide) ?_
    refine W.lcmp hx hb dX5_decidedAt_20 ?_
    refine lv_if_eq (tgt := 26) hx hb dX5_decidedAt_21 (by decide) (fun hc => ?_) (fun hc => ?_)
    · have hrun := it_t hc hrun
      refine lv_aload_n hx hb dX5_decidedAt_26 rfl (lv_at hl 0 rfl) ?_
      refine va_get (D := D) (ci := 4) (v := .ref (ta 1)) (C := RX5) (T := TX5) (N := 12) hx hb hts iX5_decidedAt_X5 hown hK hP 0 rfl rfl 6 (by decide) (hts _ mX5_decidedAt_2) (fun _ h9 => h9) rfl dX5_decidedAt_27 ?_
      refine lv_iload_n hx hb dX5_decidedAt_30 rfl (lv_at hl 1 rfl) ?_
      obtain ⟨hin, hrun⟩ := gd_some hrun
      refine va_lald hx hb hK hP 2 1 rfl rfl hin dX5_decidedAt_31 ?_
      refine lv_iload_n hx hb dX5_decidedAt_32 rfl (lv_at hl 2 rfl) ?_
      refine lv_lushr hx hb dX5_decidedAt_33 rfl ?_
      refine lv_lconst (v := 1) hx hb dX5_decidedAt_34 (by decide) ?_
      refine lv_land hx hb dX5_decidedAt_35 ?_
      refine lv_lconst (v := 0) hx hb dX5_decidedAt_36 (by decide) ?_
      refine W.lcmp hx hb dX5_decidedAt_37 ?_
      refine lv_if_eq (tgt := 43) hx hb dX5_decidedAt_38 (by decide) (fun hc => ?_) (fun hc => ?_)
      · have hrun := it_t hc hrun
        refine lv_aload_n hx hb dX5_decidedAt_43 rfl (lv_at hl 0 rfl) ?_
        refine va_get (D := D) (ci := 4) (v := .ref (ta 0)) (C := RX5) (T := TX5) (N := 12) hx hb hts iX5_decidedAt_X5 hown hK hP 0 rfl rfl 5 (by decide) (hts _ mX5_decidedAt_3) (fun _ h9 => h9) rfl dX5_decidedAt_44 ?_
        refine lv_iload_n hx hb dX5_decidedAt_47 rfl (lv_at hl 1 rfl) ?_
        obtain ⟨hin, hrun⟩ := gd_some hrun
        refine va_lald hx hb hK hP 1 1 rfl rfl hin dX5_decidedAt_48 ?_
        refine lv_iload_n hx hb dX5_decidedAt_49 rfl (lv_at hl 2 rfl) ?_
        refine lv_lushr hx hb dX5_decidedAt_50 rfl ?_
        refine lv_lconst (v := 1) hx hb dX5_decidedAt_51 (by decide) ?_
        refine lv_land hx hb dX5_decidedAt_52 ?_
        refine lv_lconst (v := 0) hx hb dX5_decidedAt_53 (by decide) ?_
        refine W.lcmp hx hb dX5_decidedAt_54 ?_
        refine lv_if_eq (tgt := 62) hx hb dX5_decidedAt_55 (by decide) (fun hc => ?_) (fun hc => ?_)
        · have hrun := it_t hc hrun
          refine lv_iconst (v := 2) hx hb dX5_decidedAt_62 (by decide) ?_
          obtain rfl := Option.some.inj hrun
          exact hret _ _ _ _ rfl dX5_decidedAt_63 hP hD hS
        · have hrun := it_f hc hrun
          refine lv_iconst (v := 0) hx hb dX5_decidedAt_58 (by decide) ?_
          refine lv_goto (tgt := 63) hx hb dX5_decidedAt_59 (by decide) ?_
          obtain rfl := Option.some.inj hrun
          exact hret _ _ _ _ rfl dX5_decidedAt_63 hP hD hS
      · have hrun := it_f hc hrun
        refine lv_iconst (v := 1) hx hb dX5_decidedAt_41 (by decide) ?_
        obtain rfl := Option.some.inj hrun
        exact hret _ _ _ _ rfl dX5_decidedAt_42 hP hD hS
    · have hrun := it_f hc hrun
      refine lv_iconst (v := 3) hx hb dX5_decidedAt_24 (by decide) ?_
      obtain rfl := Option.some.inj hrun
      exact hret _ _ _ _ rfl dX5_decidedAt_25 hP hD hS
  · have hrun := it_t hc hrun
    refine lv_iconst (v := 2) hx hb dX5_decidedAt_7 (by decide) ?_
    obtain rfl := Option.some.inj hrun
    exact hret _ _ _ _ rfl dX5_decidedAt_8 hP hD hS
set_option maxHeartbeats 4000000 in
set_option maxRecDepth 100000 in
theorem c_X5_answerAt (l : Launch) (D : va_G) (kI kJ kS : ClassId) (to : Nat) (ta : Nat → Nat) (x1 : Int32) (x2 : Int32) (t_inputs : Int32) (t_undecidedPairs : Int32) (t_parts : Int32) (t_sharedParts : Int32) (t_partCares : Int32) (t_zeros : (Nat → Int64)) (t_ones : (Nat → Int64)) (t_undecided : (Nat → Int64)) (t_answers : (Nat → Int64)) (t_primeCounts : (Nat → Int32)) (t_sizes : (Nat → Int32)) (t_codes : (Nat → Int32)) {r : Int32} (hrun : fX5_answerAt t_answers x1 x2 = some r) : cI l D (tyL kI kJ kS) true yX5_answerAt wsX5_answerAt (rmk 2 0 0 41) [.ref to, .int x1, .int x2] (wX5 kI kJ to ta t_inputs t_undecidedPairs t_parts t_sharedParts t_partCares t_zeros t_ones t_undecided t_answers t_primeCounts t_sizes t_codes) (wX5 kI kJ to ta t_inputs t_undecidedPairs t_parts t_sharedParts t_partCares t_zeros t_ones t_undecided t_answers t_primeCounts t_sizes t_codes) r := by
  refine cI_of (cc := cX5_answerAt) (maxL := 3) (by decide) rfl (Nat.le_of_ble_eq_true rfl) ?_
  intro p e s m av below meth c A Q ls hE hP hD hS hl hret
  have hE : ent_ p s m av meth c RX5 cX5_answerAt 3 (some .int) wsX5_answerAt (tyL kI kJ kS) D A true := hE
  obtain ⟨hx, hb, hml, hown, hts, hr, hlocks, hK, hA, hst⟩ := id hE
  have hl : lv_has ls 3 [(0, .ref to), (1, .int x1), (2, .int x2)] := hl
  obtain ⟨⟨⟨tW, hZ, hT⟩, hU1, hU2⟩, hnk⟩ := hst rfl
  unfold fX5_answerAt at hrun
  refine lv_aload_n hx hb dX5_answerAt_0 rfl (lv_at hl 0 rfl) ?_
  refine lv_iload_n hx hb dX5_answerAt_1 rfl (lv_at hl 1 rfl) ?_
  obtain ⟨q_1, hq_1, hrun⟩ := bd_some hrun
  refine cL_callV (As := [.int x1]) (rest := []) (wr := []) (wN := (wX5 kI kJ to ta t_inputs t_undecidedPairs t_parts t_sharedParts t_partCares t_zeros t_ones t_undecided t_answers t_primeCounts t_sizes t_codes)) (ci := 4) (q0 := 0) hE (c_X5_answersOf l D kI kJ kS to ta x1 t_inputs t_undecidedPairs t_parts t_sharedParts t_partCares t_zeros t_ones t_undecided t_answers t_primeCounts t_sizes t_codes hq_1) (cwV 1 hts gX5_answerAt_X5_answersOf rfl rfl rfl (by decide +kernel) ⟨Nat.le_of_ble_eq_true rfl, Nat.le_of_ble_eq_true rfl⟩) hP hD hS [0, 1, 2, 3, 4, 5, 6, 7] [] [0, 1, 2, 3, 4, 5, 6, 7] rfl rfl rfl rfl (by decide) rfl rfl rfl rfl rfl hl.1 rfl (Nat.le_of_ble_eq_true rfl) dX5_answerAt_2 ⟨Nat.le_of_ble_eq_true rfl, Nat.le_of_ble_eq_true rfl⟩ (fun H locs hP hD hS => ?_)
  refine lv_iload_n hx hb dX5_answerAt_5 rfl (lv_at hl 2 rfl) ?_
  refine lv_lushr hx hb dX5_answerAt_6 rfl ?_
  refine lv_lconst (v := 1) hx hb dX5_answerAt_7 (by decide) ?_
  refine lv_land hx hb dX5_answerAt_8 ?_
  refine lv_lconst (v := 0) hx hb dX5_answerAt_9 (by decide) ?_
  refine W.lcmp hx hb dX5_answerAt_10 ?_
  refine lv_if_eq (tgt := 18) hx hb dX5_answerAt_11 (by decide) (fun hc => ?_) (fun hc => ?_)
  · have hrun := it_t hc hrun
    refine lv_iconst (v := 0) hx hb dX5_answerAt_18 (by decide) ?_
    obtain rfl := Option.some.inj hrun
    exact hret _ _ _ _ rfl dX5_answerAt_19 hP hD hS
  · have hrun := it_f hc hrun
    refine lv_iconst (v := 1) hx hb dX5_answerAt_14 (by decide) ?_
    refine lv_goto (tgt := 19) hx hb dX5_answerAt_15 (by decide) ?_
    obtain rfl := Option.some.inj hrun
    exact hret _ _ _ _ rfl dX5_answerAt_19 hP hD hS
set_option maxHeartbeats 4000000 in
set_option maxRecDepth 100000 in
theorem c_X5_caresCounted (l : Launch) (D : va_G) (kI kJ kS : ClassId) (to : Nat) (ta : Nat → Nat) (x1 : Int32) (t_inputs : Int32) (t_undecidedPairs : Int32) (t_parts : Int32) (t_sharedParts : Int32) (t_partCares : Int32) (t_zeros : (Nat → Int64)) (t_ones : (Nat → Int64)) (t_undecided : (Nat → Int64)) (t_answers : (Nat → Int64)) (t_primeCounts : (Nat → Int32)) (t_sizes : (Nat → Int32)) (t_codes : (Nat → Int32)) {r : Int32} (hrun : fX5_caresCounted t_sizes t_codes x1 = some r) : cI l D (tyL kI kJ kS) true yX5_caresCounted wsX5_caresCounted (rmk 2 0 0 42) [.ref to, .int x1] (wX5 kI kJ to ta t_inputs t_undecidedPairs t_parts t_sharedParts t_partCares t_zeros t_ones t_undecided t_answers t_primeCounts t_sizes t_codes) (wX5 kI kJ to ta t_inputs t_undecidedPairs t_parts t_sharedParts t_partCares t_zeros t_ones t_undecided t_answers t_primeCounts t_sizes t_codes) r := by
  refine cI_of (cc := cX5_caresCounted) (maxL := 5) (by decide) rfl (Nat.le_of_ble_eq_true rfl) ?_
  intro p e s m av below meth c A Q ls hE hP hD hS hl hret
  have hE : ent_ p s m av meth c RX5 cX5_caresCounted 5 (some .int) wsX5_caresCounted (tyL kI kJ kS) D A true := hE
  obtain ⟨hx, hb, hml, hown, hts, hr, hlocks, hK, hA, hst⟩ := id hE
  have hl : lv_has ls 5 [(0, .ref to), (1, .int x1)] := hl
  obtain ⟨⟨⟨tW, hZ, hT⟩, hU1, hU2⟩, hnk⟩ := hst rfl
  have c_L11 : ∀ (x1 : Int32) (x3 : Int32) (n : Nat) (x2 : Int32) (x4 : Int32), fX5_caresCounted_L11 x1 x3 t_sizes t_codes n x2 x4 = some r → wAt p l e (rmk 2 0 0 42) s m av below meth c D A 5 0 0 Q 11 [] [(0, .ref to), (1, .int x1), (2, .int x2), (3, .int x3), (4, .int x4)] (wX5 kI kJ to ta t_inputs t_undecidedPairs t_parts t_sharedParts t_partCares t_zeros t_ones t_undecided t_answers t_primeCounts t_sizes t_codes) := by
    intro x1 x3 n
    induction n with
    | zero =>
      intro x2 x4 hrun
      rw [fX5_caresCounted_L11] at hrun
      cases hrun
    | succ n ih =>
      intro x2 x4 hrun H locs ls hP hD hS hl
      rw [fX5_caresCounted_L11] at hrun
      refine lv_iload hx hb dX5_caresCounted_11 (lv_at hl 4 rfl) ?_
      refine lv_iload_n hx hb dX5_caresCounted_13 rfl (lv_at hl 3 rfl) ?_
      refine lv_icmp_ge (tgt := 39) hx hb dX5_caresCounted_14 (by decide) (fun hc => ?_) (fun hc => ?_)
      · have hrun := it_t hc hrun
        refine lv_iload_n hx hb dX5_caresCounted_39 rfl (lv_at hl 2 rfl) ?_
        obtain rfl := Option.some.inj hrun
        exact hret _ _ _ _ rfl dX5_caresCounted_40 hP hD hS
      · have hrun := it_f hc hrun
        refine lv_iload_n hx hb dX5_caresCounted_17 rfl (lv_at hl 2 rfl) ?_
        refine lv_aload_n hx hb dX5_caresCounted_18 rfl (lv_at hl 0 rfl) ?_
        refine lv_iload_n hx hb dX5_caresCounted_19 rfl (lv_at hl 1 rfl) ?_
        refine lv_iload hx hb dX5_caresCounted_20 (lv_at hl 4 rfl) ?_
        obtain ⟨q_1, hq_1, hrun⟩ := bd_some hrun
        refine cI_callV (As := [.int x1, .int x4]) (rest := [.int x2]) (wr := []) (wN := (wX5 kI kJ to ta t_inputs t_undecidedPairs t_parts t_sharedParts t_partCares t_zeros t_ones t_undecided t_answers t_primeCounts t_sizes t_codes)) (ci := 4) (q0 := 0) hE (c_X5_codeAt l D kI kJ kS to ta x1 x4 t_inputs t_undecidedPairs t_parts t_sharedParts t_partCares t_zeros t_ones t_undecided t_answers t_primeCounts t_sizes t_codes hq_1) (cwV 2 hts gX5_caresCounted_X5_codeAt rfl rfl rfl (by decide +kernel) ⟨Nat.le_of_ble_eq_true rfl, Nat.le_of_ble_eq_true rfl⟩) hP hD hS [0, 1, 2, 3, 4, 5, 6, 7] [] [0, 1, 2, 3, 4, 5, 6, 7] rfl rfl rfl rfl (by decide) rfl rfl rfl rfl rfl hl.1 rfl (Nat.le_of_ble_eq_true rfl) dX5_caresCounted_22 ⟨Nat.le_of_ble_eq_true rfl, Nat.le_of_ble_eq_true rfl⟩ (fun H locs hP hD hS => ?_)
        refine lv_bipush (v := 64) hx hb dX5_caresCounted_25 (by decide) ?_
        refine lv_idiv hx hb dX5_caresCounted_27 (by decide) ?_
        obtain ⟨q_2, hq_2, hrun⟩ := bd_some hrun
        refine cI_callS (As := [.int (q_1 / 64)]) (rest := [.int x2]) (wr := (wX5 kI kJ to ta t_inputs t_undecidedPairs t_parts t_sharedParts t_partCares t_zeros t_ones t_undecided t_answers t_primeCounts t_sizes t_codes)) (wN := (wX5 kI kJ to ta t_inputs t_undecidedPairs t_parts t_sharedParts t_partCares t_zeros t_ones t_undecided t_answers t_primeCounts t_sizes t_codes)) hE (c_J6_bitCount_0f7a4 l D kI kJ kS (q_1 / 64)  hq_2) (va_cwS 1 hts gX5_caresCounted_J6_bitCount_0f7a4 rfl rfl rfl (by decide +kernel) ⟨Nat.le_of_ble_eq_true rfl, Nat.le_of_ble_eq_true rfl⟩) hP hD hS [] [0, 1, 2, 3, 4, 5, 6, 7] [0, 1, 2, 3, 4, 5, 6, 7] rfl rfl rfl rfl (by decide) rfl rfl rfl hl.1 rfl (Nat.le_of_ble_eq_true rfl) dX5_caresCounted_28 ⟨Nat.le_of_ble_eq_true rfl, Nat.le_of_ble_eq_true rfl⟩ (fun H locs hP hD hS => ?_)
        refine lv_iadd hx hb dX5_caresCounted_31 ?_
        refine lv_istore_n (lv' := [(2, .int (x2 + q_2)), (0, .ref to), (1, .int x1), (3, .int x3), (4, .int x4)]) hx hb dX5_caresCounted_32 rfl hl (by decide) rfl (fun ls hl => ?_)
        refine lv_iinc (v := x4 + 1) (lv' := [(4, .int (x4 + 1)), (2, .int (x2 + q_2)), (0, .ref to), (1, .int x1), (3, .int x3)]) hx hb dX5_caresCounted_33 hl (k := 4) rfl rfl (by decide) rfl (fun ls hl => ?_)
        refine lv_goto (tgt := 11) hx hb dX5_caresCounted_36 (by decide) ?_
        exact ih (x2 + q_2) (x4 + 1)  hrun _ _ _ hP hD hS (lv_sub hl [2, 3, 1, 4, 0] rfl)
  unfold fX5_caresCounted at hrun
  refine lv_iconst (v := 0) hx hb dX5_caresCounted_0 (by decide) ?_
  refine lv_istore_n (lv' := [(2, .int 0), (0, .ref to), (1, .int x1)]) hx hb dX5_caresCounted_1 rfl hl (by decide) rfl (fun ls hl => ?_)
  refine lv_aload_n hx hb dX5_caresCounted_2 rfl (lv_at hl 1 rfl) ?_
  refine lv_iload_n hx hb dX5_caresCounted_3 rfl (lv_at hl 2 rfl) ?_
  obtain ⟨q_3, hq_3, hrun⟩ := bd_some hrun
  refine cI_callV (As := [.int x1]) (rest := []) (wr := []) (wN := (wX5 kI kJ to ta t_inputs t_undecidedPairs t_parts t_sharedParts t_partCares t_zeros t_ones t_undecided t_answers t_primeCounts t_sizes t_codes)) (ci := 4) (q0 := 0) hE (c_X5_sizeOf l D kI kJ kS to ta x1 t_inputs t_undecidedPairs t_parts t_sharedParts t_partCares t_zeros t_ones t_undecided t_answers t_primeCounts t_sizes t_codes hq_3) (cwV 1 hts gX5_caresCounted_X5_sizeOf rfl rfl rfl (by decide +kernel) ⟨Nat.le_of_ble_eq_true rfl, Nat.le_of_ble_eq_true rfl⟩) hP hD hS [0, 1, 2, 3, 4, 5, 6, 7] [] [0, 1, 2, 3, 4, 5, 6, 7] rfl rfl rfl rfl (by decide) rfl rfl rfl rfl rfl hl.1 rfl (Nat.le_of_ble_eq_true rfl) dX5_caresCounted_4 ⟨Nat.le_of_ble_eq_true rfl, Nat.le_of_ble_eq_true rfl⟩ (fun H locs hP hD hS => ?_)
  refine lv_istore_n (lv' := [(3, .int q_3), (2, .int 0), (0, .ref to), (1, .int x1)]) hx hb dX5_caresCounted_7 rfl hl (by decide) rfl (fun ls hl => ?_)
  refine lv_iconst (v := 0) hx hb dX5_caresCounted_8 (by decide) ?_
  refine lv_istore (lv' := [(4, .int 0), (3, .int q_3), (2, .int 0), (0, .ref to), (1, .int x1)]) hx hb dX5_caresCounted_9 hl (by decide) rfl (fun ls hl => ?_)
  exact c_L11 x1 q_3 5000 0 0  hrun _ _ _ hP hD hS (lv_sub hl [3, 4, 2, 1, 0] rfl)
set_option maxHeartbeats 4000000 in
set_option maxRecDepth 100000 in
theorem c_X5_caresOfAny (l : Launch) (D : va_G) (kI kJ kS : ClassId) (to : Nat) (ta : Nat → Nat) (x1 : Int32) (t_inputs : Int32) (t_undecidedPairs : Int32) (t_parts : Int32) (t_sharedParts : Int32) (t_partCares : Int32) (t_zeros : (Nat → Int64)) (t_ones : (Nat → Int64)) (t_undecided : (Nat → Int64)) (t_answers : (Nat → Int64)) (t_primeCounts : (Nat → Int32)) (t_sizes : (Nat → Int32)) (t_codes : (Nat → Int32)) {r : Int32} (hrun : fX5_caresOfAny t_sizes t_codes x1 = some r) : cI l D (tyL kI kJ kS) true yX5_caresOfAny wsX5_caresOfAny (rmk 2 0 0 42) [.ref to, .int x1] (wX5 kI kJ to ta t_inputs t_undecidedPairs t_parts t_sharedParts t_partCares t_zeros t_ones t_undecided t_answers t_primeCounts t_sizes t_codes) (wX5 kI kJ to ta t_inputs t_undecidedPairs t_parts t_sharedParts t_partCares t_zeros t_ones t_undecided t_answers t_primeCounts t_sizes t_codes) r := by
  refine cI_of (cc := cX5_caresOfAny) (maxL := 5) (by decide) rfl (Nat.le_of_ble_eq_true rfl) ?_
  intro p e s m av below meth c A Q ls hE hP hD hS hl hret
  have hE : ent_ p s m av meth c RX5 cX5_caresOfAny 5 (some .int) wsX5_caresOfAny (tyL kI kJ kS) D A true := hE
  obtain ⟨hx, hb, hml, hown, hts, hr, hlocks, hK, hA, hst⟩ := id hE
  have hl : lv_has ls 5 [(0, .ref to), (1, .int x1)] := hl
  obtain ⟨⟨⟨tW, hZ, hT⟩, hU1, hU2⟩, hnk⟩ := hst rfl
  have c_L11 : ∀ (x1 : Int32) (x3 : Int32) (n : Nat) (x2 : Int32) (x4 : Int32), fX5_caresOfAny_L11 x1 x3 t_sizes t_codes n x2 x4 = some r → wAt p l e (rmk 2 0 0 42) s m av below meth c D A 5 0 0 Q 11 [] [(0, .ref to), (1, .int x1), (2, .int x2), (3, .int x3), (4, .int x4)] (wX5 kI kJ to ta t_inputs t_undecidedPairs t_parts t_sharedParts t_partCares t_zeros t_ones t_undecided t_answers t_primeCounts t_sizes t_codes) := by
    intro x1 x3 n
    induction n with
    | zero =>
      intro x2 x4 hrun
      rw [fX5_caresOfAny_L11] at hrun
      cases hrun
    | succ n ih =>
      intro x2 x4 hrun H locs ls hP hD hS hl
      rw [fX5_caresOfAny_L11] at hrun
      refine lv_iload hx hb dX5_caresOfAny_11 (lv_at hl 4 rfl) ?_
      refine lv_iload_n hx hb dX5_caresOfAny_13 rfl (lv_at hl 3 rfl) ?_
      refine lv_icmp_ge (tgt := 36) hx hb dX5_caresOfAny_14 (by decide) (fun hc => ?_) (fun hc => ?_)
      · have hrun := it_t hc hrun
        refine lv_iload_n hx hb dX5_caresOfAny_36 rfl (lv_at hl 2 rfl) ?_
        obtain rfl := Option.some.inj hrun
        exact hret _ _ _ _ rfl dX5_caresOfAny_37 hP hD hS
      · have hrun := it_f hc hrun
        refine lv_iload_n hx hb dX5_caresOfAny_17 rfl (lv_at hl 2 rfl) ?_
        refine lv_aload_n hx hb dX5_caresOfAny_18 rfl (lv_at hl 0 rfl) ?_
        refine lv_iload_n hx hb dX5_caresOfAny_19 rfl (lv_at hl 1 rfl) ?_
        refine lv_iload hx hb dX5_caresOfAny_20 (lv_at hl 4 rfl) ?_
        obtain ⟨q_1, hq_1, hrun⟩ := bd_some hrun
        refine cI_callV (As := [.int x1, .int x4]) (rest := [.int x2]) (wr := []) (wN := (wX5 kI kJ to ta t_inputs t_undecidedPairs t_parts t_sharedParts t_partCares t_zeros t_ones t_undecided t_answers t_primeCounts t_sizes t_codes)) (ci := 4) (q0 := 0) hE (c_X5_codeAt l D kI kJ kS to ta x1 x4 t_inputs t_undecidedPairs t_parts t_sharedParts t_partCares t_zeros t_ones t_undecided t_answers t_primeCounts t_sizes t_codes hq_1) (cwV 2 hts gX5_caresOfAny_X5_codeAt rfl rfl rfl (by decide +kernel) ⟨Nat.le_of_ble_eq_true rfl, Nat.le_of_ble_eq_true rfl⟩) hP hD hS [0, 1, 2, 3, 4, 5, 6, 7] [] [0, 1, 2, 3, 4, 5, 6, 7] rfl rfl rfl rfl (by decide) rfl rfl rfl rfl rfl hl.1 rfl (Nat.le_of_ble_eq_true rfl) dX5_caresOfAny_22 ⟨Nat.le_of_ble_eq_true rfl, Nat.le_of_ble_eq_true rfl⟩ (fun H locs hP hD hS => ?_)
        refine lv_bipush (v := 64) hx hb dX5_caresOfAny_25 (by decide) ?_
        refine lv_idiv hx hb dX5_caresOfAny_27 (by decide) ?_
        refine lv_ior hx hb dX5_caresOfAny_28 ?_
        refine lv_istore_n (lv' := [(2, .int (x2 ||| (q_1 / 64))), (0, .ref to), (1, .int x1), (3, .int x3), (4, .int x4)]) hx hb dX5_caresOfAny_29 rfl hl (by decide) rfl (fun ls hl => ?_)
        refine lv_iinc (v := x4 + 1) (lv' := [(4, .int (x4 + 1)), (2, .int (x2 ||| (q_1 / 64))), (0, .ref to), (1, .int x1), (3, .int x3)]) hx hb dX5_caresOfAny_30 hl (k := 4) rfl rfl (by decide) rfl (fun ls hl => ?_)
        refine lv_goto (tgt := 11) hx hb dX5_caresOfAny_33 (by decide) ?_
        exact ih (x2 ||| (q_1 / 64)) (x4 + 1)  hrun _ _ _ hP hD hS (lv_sub hl [2, 3, 1, 4, 0] rfl)
  unfold fX5_caresOfAny at hrun
  refine lv_iconst (v := 0) hx hb dX5_caresOfAny_0 (by decide) ?_
  refine lv_istore_n (lv' := [(2, .int 0), (0, .ref to), (1, .int x1)]) hx hb dX5_caresOfAny_1 rfl hl (by decide) rfl (fun ls hl => ?_)
  refine lv_aload_n hx hb dX5_caresOfAny_2 rfl (lv_at hl 1 rfl) ?_
  refine lv_iload_n hx hb dX5_caresOfAny_3 rfl (lv_at hl 2 rfl) ?_
  obtain ⟨q_2, hq_2, hrun⟩ := bd_some hrun
  refine cI_callV (As := [.int x1]) (rest := []) (wr := []) (wN := (wX5 kI kJ to ta t_inputs t_undecidedPairs t_parts t_sharedParts t_partCares t_zeros t_ones t_undecided t_answers t_primeCounts t_sizes t_codes)) (ci := 4) (q0 := 0) hE (c_X5_sizeOf l D kI kJ kS to ta x1 t_inputs t_undecidedPairs t_parts t_sharedParts t_partCares t_zeros t_ones t_undecided t_answers t_primeCounts t_sizes t_codes hq_2) (cwV 1 hts gX5_caresOfAny_X5_sizeOf rfl rfl rfl (by decide +kernel) ⟨Nat.le_of_ble_eq_true rfl, Nat.le_of_ble_eq_true rfl⟩) hP hD hS [0, 1, 2, 3, 4, 5, 6, 7] [] [0, 1, 2, 3, 4, 5, 6, 7] rfl rfl rfl rfl (by decide) rfl rfl rfl rfl rfl hl.1 rfl (Nat.le_of_ble_eq_true rfl) dX5_caresOfAny_4 ⟨Nat.le_of_ble_eq_true rfl, Nat.le_of_ble_eq_true rfl⟩ (fun H locs hP hD hS => ?_)
  refine lv_istore_n (lv' := [(3, .int q_2), (2, .int 0), (0, .ref to), (1, .int x1)]) hx hb dX5_caresOfAny_7 rfl hl (by decide) rfl (fun ls hl => ?_)
  refine lv_iconst (v := 0) hx hb dX5_caresOfAny_8 (by decide) ?_
  refine lv_istore (lv' := [(4, .int 0), (3, .int q_2), (2, .int 0), (0, .ref to), (1, .int x1)]) hx hb dX5_caresOfAny_9 hl (by decide) rfl (fun ls hl => ?_)
  exact c_L11 x1 q_2 5000 0 0  hrun _ _ _ hP hD hS (lv_sub hl [3, 4, 2, 1, 0] rfl)
theorem mX5_outputNumber_8 : Cond.initialized RX6 ∈ wsX5_outputNumber := List.mem_of_getElem? (i := 8) rfl
theorem mX5_outputNumber_7 : Cond.static yX6_isOutput ∈ wsX5_outputNumber := List.mem_of_getElem? (i := 7) rfl
theorem mX5_outputNumber_1 : Cond.fieldLink RX5 15 "GateMaze$View" "ones" "[J" ∈ wsX5_outputNumber := List.mem_of_getElem? (i := 1) rfl
theorem mX5_outputNumber_2 : Cond.fieldLink RX5 40 "GateMaze$View" "inputs" "I" ∈ wsX5_outputNumber := List.mem_of_getElem? (i := 2) rfl
theorem mX5_outputNumber_3 : Cond.fieldLink RX5 9 "GateMaze$View" "zeros" "[J" ∈ wsX5_outputNumber := List.mem_of_getElem? (i := 3) rfl
theorem mX5_outputNumber_4 : Cond.fieldLink RX5 18 "GateMaze$View" "undecided" "[J" ∈ wsX5_outputNumber := List.mem_of_getElem? (i := 4) rfl
theorem mX5_outputNumber_5 : Cond.fieldLink RX5 24 "GateMaze$View" "primeCounts" "[I" ∈ wsX5_outputNumber := List.mem_of_getElem? (i := 5) rfl
theorem mX5_outputNumber_6 : Cond.fieldLink RX5 28 "GateMaze$View" "sizes" "[I" ∈ wsX5_outputNumber := List.mem_of_getElem? (i := 6) rfl
theorem iX5_outputNumber_X5 : ∀ w ∈ u_ws RX5 TX5 12, w ∈ wsX5_outputNumber := fun w h => List.mem_cons_of_mem _ (List.mem_append_right _ h)
set_option maxHeartbeats 4000000 in
set_option maxRecDepth 100000 in
theorem c_X5_outputNumber (l : Launch) (D : va_G) (kI kJ kS : ClassId) (to : Nat) (ta : Nat → Nat) (x1 : Int32) (x2 : Int32) (t_inputs : Int32) (t_undecidedPairs : Int32) (t_parts : Int32) (t_sharedParts : Int32) (t_partCares : Int32) (t_zeros : (Nat → Int64)) (t_ones : (Nat → Int64)) (t_undecided : (Nat → Int64)) (t_answers : (Nat → Int64)) (t_primeCounts : (Nat → Int32)) (t_sizes : (Nat → Int32)) (t_codes : (Nat → Int32)) {r : Int32} (hrun : fX5_outputNumber t_inputs t_zeros t_ones t_undecided t_primeCounts t_sizes t_codes x1 x2 = some r) : cI l D (tyL kI kJ kS) true yX5_outputNumber wsX5_outputNumber (rmk 3 0 0 66) [.ref to, .int x1, .int x2] (wX5 kI kJ to ta t_inputs t_undecidedPairs t_parts t_sharedParts t_partCares t_zeros t_ones t_undecided t_answers t_primeCounts t_sizes t_codes) (wX5 kI kJ to ta t_inputs t_undecidedPairs t_parts t_sharedParts t_partCares t_zeros t_ones t_undecided t_answers t_primeCounts t_sizes t_codes) r := by
  refine cI_of (cc := cX5_outputNumber) (maxL := 3) (by decide) rfl (Nat.le_of_ble_eq_true rfl) ?_
  intro p e s m av below meth c A Q ls hE hP hD hS hl hret
  have hE : ent_ p s m av meth c RX5 cX5_outputNumber 3 (some .int) wsX5_outputNumber (tyL kI kJ kS) D A true := hE
  obtain ⟨hx, hb, hml, hown, hts, hr, hlocks, hK, hA, hst⟩ := id hE
  have hl : lv_has ls 3 [(0, .ref to), (1, .int x1), (2, .int x2)] := hl
  obtain ⟨⟨⟨tW, hZ, hT⟩, hU1, hU2⟩, hnk⟩ := hst rfl
  unfold fX5_outputNumber at hrun
  refine lv_iload_n hx hb dX5_outputNumber_0 rfl (lv_at hl 1 rfl) ?_
  obtain ⟨q_1, hq_1, hrun⟩ := bd_some hrun
  refine cI_callSN (As := [.int x1]) (rest := []) (wr := (wX5 kI kJ to ta t_inputs t_undecidedPairs t_parts t_sharedParts t_partCares t_zeros t_ones t_undecided t_answers t_primeCounts t_sizes t_codes)) (wN := (wX5 kI kJ to ta t_inputs t_undecidedPairs t_parts t_sharedParts t_partCares t_zeros t_ones t_undecided t_answers t_primeCounts t_sizes t_codes)) hE (c_X6_isOutput l D kI kJ kS x1  hq_1) ⟨va_cnB 1 hts ggX5_outputNumber_X6_isOutput rfl rfl rfl (nm_6 hnk) (hts _ mX5_outputNumber_8) (by decide +kernel) ⟨Nat.le_of_ble_eq_true rfl, Nat.le_of_ble_eq_true rfl⟩, hts _ mX5_outputNumber_7, trivial⟩ hP hD hS [] [0, 1, 2, 3, 4, 5, 6, 7] [0, 1, 2, 3, 4, 5, 6, 7] rfl rfl rfl rfl (by decide) rfl rfl rfl hl.1 rfl (Nat.le_of_ble_eq_true rfl) dX5_outputNumber_1 ⟨Nat.le_of_ble_eq_true rfl, Nat.le_of_ble_eq_true rfl⟩ (fun H locs hP hD hS => ?_)
  refine lv_if_ne (tgt := 9) hx hb dX5_outputNumber_4 (by decide) (fun hc => ?_) (fun hc => ?_)
  · have hrun := it_f hc hrun
    refine lv_iload_n hx hb dX5_outputNumber_9 rfl (lv_at hl 2 rfl) ?_
    by_cases hs0 : x2 = 2
    · have hrun := it_t hs0 hrun
      refine lv_tableV (v := 2) (tgt := 48) hx hb dX5_outputNumber_10 hs0 (by decide) (by decide) rfl (by decide) ?_
      refine lv_aload_n hx hb dX5_outputNumber_48 rfl (lv_at hl 0 rfl) ?_
      refine va_get (D := D) (ci := 4) (v := .ref (ta 1)) (C := RX5) (T := TX5) (N := 12) hx hb hts iX5_outputNumber_X5 hown hK hP 0 rfl rfl 6 (by decide) (hts _ mX5_outputNumber_1) (fun _ h9 => h9) rfl dX5_outputNumber_49 ?_
      refine lv_iload_n hx hb dX5_outputNumber_52 rfl (lv_at hl 1 rfl) ?_
      obtain ⟨hin, hrun⟩ := gd_some hrun
      refine va_lald hx hb hK hP 2 1 rfl rfl hin dX5_outputNumber_53 ?_
      obtain ⟨q_2, hq_2, hrun⟩ := bd_some hrun
      refine cI_callS (As := [.long (t_ones x1.toNatClampNeg)]) (rest := []) (wr := (wX5 kI kJ to ta t_inputs t_undecidedPairs t_parts t_sharedParts t_partCares t_zeros t_ones t_undecided t_answers t_primeCounts t_sizes t_codes)) (wN := (wX5 kI kJ to ta t_inputs t_undecidedPairs t_parts t_sharedParts t_partCares t_zeros t_ones t_undecided t_answers t_primeCounts t_sizes t_codes)) hE (c_J13_bitCount_95d88 l D kI kJ kS (t_ones x1.toNatClampNeg)  hq_2) (va_cwS 1 hts gX5_outputNumber_J13_bitCount_95d88 rfl rfl rfl (by decide +kernel) ⟨Nat.le_of_ble_eq_true rfl, Nat.le_of_ble_eq_true rfl⟩) hP hD hS [] [0, 1, 2, 3, 4, 5, 6, 7] [0, 1, 2, 3, 4, 5, 6, 7] rfl rfl rfl rfl (by decide) rfl rfl rfl hl.1 rfl (Nat.le_of_ble_eq_true rfl) dX5_outputNumber_54 ⟨Nat.le_of_ble_eq_true rfl, Nat.le_of_ble_eq_true rfl⟩ (fun H locs hP hD hS => ?_)
      obtain rfl := Option.some.inj hrun
      exact hret _ _ _ _ rfl dX5_outputNumber_57 hP hD hS
    have hrun := it_f hs0 hrun
    by_cases hs1 : x2 = 3
    · have hrun := it_t hs1 hrun
      refine lv_tableV (v := 3) (tgt := 58) hx hb dX5_outputNumber_10 hs1 (by decide) (by decide) rfl (by decide) ?_
      refine lv_iconst (v := 1) hx hb dX5_outputNumber_58 (by decide) ?_
      refine lv_aload_n hx hb dX5_outputNumber_59 rfl (lv_at hl 0 rfl) ?_
      refine va_get (D := D) (ci := 4) (v := .int t_inputs) (C := RX5) (T := TX5) (N := 12) hx hb hts iX5_outputNumber_X5 hown hK hP 0 rfl rfl 0 (by decide) (hts _ mX5_outputNumber_2) (fun _ h9 => h9) rfl dX5_outputNumber_60 ?_
      refine lv_ishl hx hb dX5_outputNumber_63 ?_
      refine lv_aload_n hx hb dX5_outputNumber_64 rfl (lv_at hl 0 rfl) ?_
      refine va_get (D := D) (ci := 4) (v := .ref (ta 1)) (C := RX5) (T := TX5) (N := 12) hx hb hts iX5_outputNumber_X5 hown hK hP 0 rfl rfl 6 (by decide) (hts _ mX5_outputNumber_1) (fun _ h9 => h9) rfl dX5_outputNumber_65 ?_
      refine lv_iload_n hx hb dX5_outputNumber_68 rfl (lv_at hl 1 rfl) ?_
      obtain ⟨hin, hrun⟩ := gd_some hrun
      refine va_lald hx hb hK hP 2 1 rfl rfl hin dX5_outputNumber_69 ?_
      refine lv_aload_n hx hb dX5_outputNumber_70 rfl (lv_at hl 0 rfl) ?_
      refine va_get (D := D) (ci := 4) (v := .ref (ta 0)) (C := RX5) (T := TX5) (N := 12) hx hb hts iX5_outputNumber_X5 hown hK hP 0 rfl rfl 5 (by decide) (hts _ mX5_outputNumber_3) (fun _ h9 => h9) rfl dX5_outputNumber_71 ?_
      refine lv_iload_n hx hb dX5_outputNumber_74 rfl (lv_at hl 1 rfl) ?_
      obtain ⟨hin, hrun⟩ := gd_some hrun
      refine va_lald hx hb hK hP 1 1 rfl rfl hin dX5_outputNumber_75 ?_
      refine lv_lor hx hb dX5_outputNumber_76 ?_
      refine lv_aload_n hx hb dX5_outputNumber_77 rfl (lv_at hl 0 rfl) ?_
      refine va_get (D := D) (ci := 4) (v := .ref (ta 2)) (C := RX5) (T := TX5) (N := 12) hx hb hts iX5_outputNumber_X5 hown hK hP 0 rfl rfl 7 (by decide) (hts _ mX5_outputNumber_4) (fun _ h9 => h9) rfl dX5_outputNumber_78 ?_
      refine lv_iload_n hx hb dX5_outputNumber_81 rfl (lv_at hl 1 rfl) ?_
      obtain ⟨hin, hrun⟩ := gd_some hrun
      refine va_lald hx hb hK hP 3 1 rfl rfl hin dX5_outputNumber_82 ?_
      refine lv_lor hx hb dX5_outputNumber_83 ?_
      obtain ⟨q_3, hq_3, hrun⟩ := bd_some hrun
      refine cI_callS (As := [.long (((t_ones x1.toNatClampNeg) ||| (t_zeros x1.toNatClampNeg)) ||| (t_undecided x1.toNatClampNeg))]) (rest := [.int ((1 : Int32) <<< (t_inputs &&& 31))]) (wr := (wX5 kI kJ to ta t_inputs t_undecidedPairs t_parts t_sharedParts t_partCares t_zeros t_ones t_undecided t_answers t_primeCounts t_sizes t_codes)) (wN := (wX5 kI kJ to ta t_inputs t_undecidedPairs t_parts t_sharedParts t_partCares t_zeros t_ones t_undecided t_answers t_primeCounts t_sizes t_codes)) hE (c_J13_bitCount_95d88 l D kI kJ kS (((t_ones x1.toNatClampNeg) ||| (t_zeros x1.toNatClampNeg)) ||| (t_undecided x1.toNatClampNeg))  hq_3) (va_cwS 1 hts gX5_outputNumber_J13_bitCount_95d88 rfl rfl rfl (by decide +kernel) ⟨Nat.le_of_ble_eq_true rfl, Nat.le_of_ble_eq_true rfl⟩) hP hD hS [] [0, 1, 2, 3, 4, 5, 6, 7] [0, 1, 2, 3, 4, 5, 6, 7] rfl rfl rfl rfl (by decide) rfl rfl rfl hl.1 rfl (Nat.le_of_ble_eq_true rfl) dX5_outputNumber_84 ⟨Nat.le_of_ble_eq_true rfl, Nat.le_of_ble_eq_true rfl⟩ (fun H locs hP hD hS => ?_)
      refine lv_isub hx hb dX5_outputNumber_87 ?_
      obtain rfl := Option.some.inj hrun
      exact hret _ _ _ _ rfl dX5_outputNumber_88 hP hD hS
    have hrun := it_f hs1 hrun
    by_cases hs2 : x2 = 4
    · have hrun := it_t hs2 hrun
      refine lv_tableV (v := 4) (tgt := 89) hx hb dX5_outputNumber_10 hs2 (by decide) (by decide) rfl (by decide) ?_
      refine lv_aload_n hx hb dX5_outputNumber_89 rfl (lv_at hl 0 rfl) ?_
      refine va_get (D := D) (ci := 4) (v := .ref (ta 2)) (C := RX5) (T := TX5) (N := 12) hx hb hts iX5_outputNumber_X5 hown hK hP 0 rfl rfl 7 (by decide) (hts _ mX5_outputNumber_4) (fun _ h9 => h9) rfl dX5_outputNumber_90 ?_
      refine lv_iload_n hx hb dX5_outputNumber_93 rfl (lv_at hl 1 rfl) ?_
      obtain ⟨hin, hrun⟩ := gd_some hrun
      refine va_lald hx hb hK hP 3 1 rfl rfl hin dX5_outputNumber_94 ?_
      obtain ⟨q_4, hq_4, hrun⟩ := bd_some hrun
      refine cI_callS (As := [.long (t_undecided x1.toNatClampNeg)]) (rest := []) (wr := (wX5 kI kJ to ta t_inputs t_undecidedPairs t_parts t_sharedParts t_partCares t_zeros t_ones t_undecided t_answers t_primeCounts t_sizes t_codes)) (wN := (wX5 kI kJ to ta t_inputs t_undecidedPairs t_parts t_sharedParts t_partCares t_zeros t_ones t_undecided t_answers t_primeCounts t_sizes t_codes)) hE (c_J13_bitCount_95d88 l D kI kJ kS (t_undecided x1.toNatClampNeg)  hq_4) (va_cwS 1 hts gX5_outputNumber_J13_bitCount_95d88 rfl rfl rfl (by decide +kernel) ⟨Nat.le_of_ble_eq_true rfl, Nat.le_of_ble_eq_true rfl⟩) hP hD hS [] [0, 1, 2, 3, 4, 5, 6, 7] [0, 1, 2, 3, 4, 5, 6, 7] rfl rfl rfl rfl (by decide) rfl rfl rfl hl.1 rfl (Nat.le_of_ble_eq_true rfl) dX5_outputNumber_95 ⟨Nat.le_of_ble_eq_true rfl, Nat.le_of_ble_eq_true rfl⟩ (fun H locs hP hD hS => ?_)
      obtain rfl := Option.some.inj hrun
      exact hret _ _ _ _ rfl dX5_outputNumber_98 hP hD hS
    have hrun := it_f hs2 hrun
    by_cases hs3 : x2 = 5
    · have hrun := it_t hs3 hrun
      refine lv_tableV (v := 5) (tgt := 99) hx hb dX5_outputNumber_10 hs3 (by decide) (by decide) rfl (by decide) ?_
      refine lv_aload_n hx hb dX5_outputNumber_99 rfl (lv_at hl 0 rfl) ?_
      refine va_get (D := D) (ci := 4) (v := .ref (ta 4)) (C := RX5) (T := TX5) (N := 12) hx hb hts iX5_outputNumber_X5 hown hK hP 0 rfl rfl 9 (by decide) (hts _ mX5_outputNumber_5) (fun _ h9 => h9) rfl dX5_outputNumber_100 ?_
      refine lv_iload_n hx hb dX5_outputNumber_103 rfl (lv_at hl 1 rfl) ?_
      obtain ⟨hin, hrun⟩ := gd_some hrun
      refine va_iald hx hb hK hP 5 0 rfl rfl hin dX5_outputNumber_104 ?_
      obtain rfl := Option.some.inj hrun
      exact hret _ _ _ _ rfl dX5_outputNumber_105 hP hD hS
    have hrun := it_f hs3 hrun
    by_cases hs4 : x2 = 6
    · have hrun := it_t hs4 hrun
      refine lv_tableV (v := 6) (tgt := 106) hx hb dX5_outputNumber_10 hs4 (by decide) (by decide) rfl (by decide) ?_
      refine lv_aload_n hx hb dX5_outputNumber_106 rfl (lv_at hl 0 rfl) ?_
      refine va_get (D := D) (ci := 4) (v := .ref (ta 5)) (C := RX5) (T := TX5) (N := 12) hx hb hts iX5_outputNumber_X5 hown hK hP 0 rfl rfl 10 (by decide) (hts _ mX5_outputNumber_6) (fun _ h9 => h9) rfl dX5_outputNumber_107 ?_
      refine lv_iload_n hx hb dX5_outputNumber_110 rfl (lv_at hl 1 rfl) ?_
      obtain ⟨hin, hrun⟩ := gd_some hrun
      refine va_iald hx hb hK hP 6 0 rfl rfl hin dX5_outputNumber_111 ?_
      obtain rfl := Option.some.inj hrun
      exact hret _ _ _ _ rfl dX5_outputNumber_112 hP hD hS
    have hrun := it_f hs4 hrun
    by_cases hs5 : x2 = 7
    · have hrun := it_t hs5 hrun
      refine lv_tableV (v := 7) (tgt := 113) hx hb dX5_outputNumber_10 hs5 (by decide) (by decide) rfl (by decide) ?_
      refine lv_aload_n hx hb dX5_outputNumber_113 rfl (lv_at hl 0 rfl) ?_
      refine lv_iload_n hx hb dX5_outputNumber_114 rfl (lv_at hl 1 rfl) ?_
      obtain ⟨q_5, hq_5, hrun⟩ := bd_some hrun
      refine cI_callV (As := [.int x1]) (rest := []) (wr := []) (wN := (wX5 kI kJ to ta t_inputs t_undecidedPairs t_parts t_sharedParts t_partCares t_zeros t_ones t_undecided t_answers t_primeCounts t_sizes t_codes)) (ci := 4) (q0 := 0) hE (c_X5_caresCounted l D kI kJ kS to ta x1 t_inputs t_undecidedPairs t_parts t_sharedParts t_partCares t_zeros t_ones t_undecided t_answers t_primeCounts t_sizes t_codes hq_5) (cwV 1 hts gX5_outputNumber_X5_caresCounted rfl rfl rfl (by decide +kernel) ⟨Nat.le_of_ble_eq_true rfl, Nat.le_of_ble_eq_true rfl⟩) hP hD hS [0, 1, 2, 3, 4, 5, 6, 7] [] [0, 1, 2, 3, 4, 5, 6, 7] rfl rfl rfl rfl (by decide) rfl rfl rfl rfl rfl hl.1 rfl (Nat.le_of_ble_eq_true rfl) dX5_outputNumber_115 ⟨Nat.le_of_ble_eq_true rfl, Nat.le_of_ble_eq_true rfl⟩ (fun H locs hP hD hS => ?_)
      obtain rfl := Option.some.inj hrun
      exact hret _ _ _ _ rfl dX5_outputNumber_118 hP hD hS
    have hrun := it_f hs5 hrun
    refine lv_tableOut (tgt := 119) hx hb dX5_outputNumber_10 (sw_out [2, 3, 4, 5, 6, 7] (by decide) (by decide) (by decide) (⟨hs0, hs1, hs2, hs3, hs4, hs5, trivial⟩)) (by decide) ?_
    refine lv_aload_n hx hb dX5_outputNumber_119 rfl (lv_at hl 0 rfl) ?_
    refine lv_iload_n hx hb dX5_outputNumber_120 rfl (lv_at hl 1 rfl) ?_
    obtain ⟨q_6, hq_6, hrun⟩ := bd_some hrun
    refine cI_callV (As := [.int x1]) (rest := []) (wr := []) (wN := (wX5 kI kJ to ta t_inputs t_undecidedPairs t_parts t_sharedParts t_partCares t_zeros t_ones t_undecided t_answers t_primeCounts t_sizes t_codes)) (ci := 4) (q0 := 0) hE (c_X5_caresOfAny l D kI kJ kS to ta x1 t_inputs t_undecidedPairs t_parts t_sharedParts t_partCares t_zeros t_ones t_undecided t_answers t_primeCounts t_sizes t_codes hq_6) (cwV 1 hts gX5_outputNumber_X5_caresOfAny rfl rfl rfl (by decide +kernel) ⟨Nat.le_of_ble_eq_true rfl, Nat.le_of_ble_eq_true rfl⟩) hP hD hS [0, 1, 2, 3, 4, 5, 6, 7] [] [0, 1, 2, 3, 4, 5, 6, 7] rfl rfl rfl rfl (by decide) rfl rfl rfl rfl rfl hl.1 rfl (Nat.le_of_ble_eq_true rfl) dX5_outputNumber_121 ⟨Nat.le_of_ble_eq_true rfl, Nat.le_of_ble_eq_true rfl⟩ (fun H locs hP hD hS => ?_)
    obtain rfl := Option.some.inj hrun
    exact hret _ _ _ _ rfl dX5_outputNumber_124 hP hD hS
  · have hrun := it_t hc hrun
    refine lv_iconst (v := 0) hx hb dX5_outputNumber_7 (by decide) ?_
    obtain rfl := Option.some.inj hrun
    exact hret _ _ _ _ rfl dX5_outputNumber_8 hP hD hS
theorem mX5_productNumber_1 : Cond.fieldLink RX5 40 "GateMaze$View" "inputs" "I" ∈ wsX5_productNumber := List.mem_of_getElem? (i := 1) rfl
theorem iX5_productNumber_X5 : ∀ w ∈ u_ws RX5 TX5 12, w ∈ wsX5_productNumber := fun w h => List.mem_cons_of_mem _ (List.mem_append_right _ h)
set_option maxHeartbeats 4000000 in
set_option maxRecDepth 100000 in
theorem c_X5_productNumber (l : Launch) (D : va_G) (kI kJ kS : ClassId) (to : Nat) (ta : Nat → Nat) (x1 : Int32) (x2 : Int32) (x3 : Int32) (t_inputs : Int32) (t_undecidedPairs : Int32) (t_parts : Int32) (t_sharedParts : Int32) (t_partCares : Int32) (t_zeros : (Nat → Int64)) (t_ones : (Nat → Int64)) (t_undecided : (Nat → Int64)) (t_answers : (Nat → Int64)) (t_primeCounts : (Nat → Int32)) (t_sizes : (Nat → Int32)) (t_codes : (Nat → Int32)) {r : Int32} (hrun : fX5_productNumber t_inputs t_sizes t_codes x1 x2 x3 = some r) : cI l D (tyL kI kJ kS) true yX5_productNumber wsX5_productNumber (rmk 2 0 0 50) [.ref to, .int x1, .int x2, .int x3] (wX5 kI kJ to ta t_inputs t_undecidedPairs t_parts t_sharedParts t_partCares t_zeros t_ones t_undecided t_answers t_primeCounts t_sizes t_codes) (wX5 kI kJ to ta t_inputs t_undecidedPairs t_parts t_sharedParts t_partCares t_zeros t_ones t_undecided t_answers t_primeCounts t_sizes t_codes) r := by
  refine cI_of (cc := cX5_productNumber) (maxL := 7) (by decide) rfl (Nat.le_of_ble_eq_true rfl) ?_
  intro p e s m av below meth c A Q ls hE hP hD hS hl hret
  have hE : ent_ p s m av meth c RX5 cX5_productNumber 7 (some .int) wsX5_productNumber (tyL kI kJ kS) D A true := hE
  obtain ⟨hx, hb, hml, hown, hts, hr, hlocks, hK, hA, hst⟩ := id hE
  have hl : lv_has ls 7 [(0, .ref to), (1, .int x1), (2, .int x2), (3, .int x3)] := hl
  obtain ⟨⟨⟨tW, hZ, hT⟩, hU1, hU2⟩, hnk⟩ := hst rfl
  unfold fX5_productNumber at hrun
  refine lv_aload_n hx hb dX5_productNumber_0 rfl (lv_at hl 0 rfl) ?_
  refine lv_iload_n hx hb dX5_productNumber_1 rfl (lv_at hl 1 rfl) ?_
  refine lv_iload_n hx hb dX5_productNumber_2 rfl (lv_at hl 2 rfl) ?_
  obtain ⟨q_1, hq_1, hrun⟩ := bd_some hrun
  refine cI_callV (As := [.int x1, .int x2]) (rest := []) (wr := []) (wN := (wX5 kI kJ to ta t_inputs t_undecidedPairs t_parts t_sharedParts t_partCares t_zeros t_ones t_undecided t_answers t_primeCounts t_sizes t_codes)) (ci := 4) (q0 := 0) hE (c_X5_codeAt l D kI kJ kS to ta x1 x2 t_inputs t_undecidedPairs t_parts t_sharedParts t_partCares t_zeros t_ones t_undecided t_answers t_primeCounts t_sizes t_codes hq_1) (cwV 2 hts gX5_productNumber_X5_codeAt rfl rfl rfl (by decide +kernel) ⟨Nat.le_of_ble_eq_true rfl, Nat.le_of_ble_eq_true rfl⟩) hP hD hS [0, 1, 2, 3, 4, 5, 6, 7] [] [0, 1, 2, 3, 4, 5, 6, 7] rfl rfl rfl rfl (by decide) rfl rfl rfl rfl rfl hl.1 rfl (Nat.le_of_ble_eq_true rfl) dX5_productNumber_3 ⟨Nat.le_of_ble_eq_true rfl, Nat.le_of_ble_eq_true rfl⟩ (fun H locs hP hD hS => ?_)
  refine lv_istore (lv' := [(4, .int q_1), (0, .ref to), (1, .int x1), (2, .int x2), (3, .int x3)]) hx hb dX5_productNumber_6 hl (by decide) rfl (fun ls hl => ?_)
  refine lv_iload hx hb dX5_productNumber_8 (lv_at hl 0 rfl) ?_
  refine lv_iconst (v := (-1)) hx hb dX5_productNumber_10 (by decide) ?_
  refine lv_icmp_ne (tgt := 16) hx hb dX5_productNumber_11 (by decide) (fun hc => ?_) (fun hc => ?_)
  · have hrun := it_f hc hrun
    refine lv_iload hx hb dX5_productNumber_16 (lv_at hl 0 rfl) ?_
    refine lv_bipush (v := 64) hx hb dX5_productNumber_18 (by decide) ?_
    refine lv_idiv hx hb dX5_productNumber_20 (by decide) ?_
    refine lv_istore (lv' := [(5, .int (q_1 / 64)), (4, .int q_1), (0, .ref to), (1, .int x1), (2, .int x2), (3, .int x3)]) hx hb dX5_productNumber_21 hl (by decide) rfl (fun ls hl => ?_)
    refine lv_iload hx hb dX5_productNumber_23 (lv_at hl 1 rfl) ?_
    refine lv_bipush (v := 64) hx hb dX5_productNumber_25 (by decide) ?_
    refine lv_irem hx hb dX5_productNumber_27 (by decide) ?_
    refine lv_istore (lv' := [(6, .int (q_1 - q_1 / 64 * 64)), (5, .int (q_1 / 64)), (4, .int q_1), (0, .ref to), (1, .int x1), (2, .int x2), (3, .int x3)]) hx hb dX5_productNumber_28 hl (by decide) rfl (fun ls hl => ?_)
    refine lv_iload_n hx hb dX5_productNumber_30 rfl (lv_at hl 6 rfl) ?_
    by_cases hs0 : x3 = 0
    · have hrun := it_t hs0 hrun
      refine lv_tableV (v := 0) (tgt := 56) hx hb dX5_productNumber_31 hs0 (by decide) (by decide) rfl (by decide) ?_
      refine lv_iload hx hb dX5_productNumber_56 (lv_at hl 1 rfl) ?_
      obtain rfl := Option.some.inj hrun
      exact hret _ _ _ _ rfl dX5_productNumber_58 hP hD hS
    have hrun := it_f hs0 hrun
    by_cases hs1 : x3 = 1
    · have hrun := it_t hs1 hrun
      refine lv_tableV (v := 1) (tgt := 59) hx hb dX5_productNumber_31 hs1 (by decide) (by decide) rfl (by decide) ?_
      refine lv_iload hx hb dX5_productNumber_59 (lv_at hl 0 rfl) ?_
      obtain rfl := Option.some.inj hrun
      exact hret _ _ _ _ rfl dX5_productNumber_61 hP hD hS
    have hrun := it_f hs1 hrun
    by_cases hs2 : x3 = 2
    · have hrun := it_t hs2 hrun
      refine lv_tableV (v := 2) (tgt := 62) hx hb dX5_productNumber_31 hs2 (by decide) (by decide) rfl (by decide) ?_
      refine lv_aload_n hx hb dX5_productNumber_62 rfl (lv_at hl 3 rfl) ?_
      refine va_get (D := D) (ci := 4) (v := .int t_inputs) (C := RX5) (T := TX5) (N := 12) hx hb hts iX5_productNumber_X5 hown hK hP 0 rfl rfl 0 (by decide) (hts _ mX5_productNumber_1) (fun _ h9 => h9) rfl dX5_productNumber_63 ?_
      refine lv_iload hx hb dX5_productNumber_66 (lv_at hl 1 rfl) ?_
      refine lv_iload hx hb dX5_productNumber_68 (lv_at hl 0 rfl) ?_
      obtain ⟨q_2, hq_2, hrun⟩ := bd_some hrun
      refine cL_callS (As := [.int t_inputs, .int (q_1 / 64), .int (q_1 - q_1 / 64 * 64)]) (rest := []) (wr := (wX5 kI kJ to ta t_inputs t_undecidedPairs t_parts t_sharedParts t_partCares t_zeros t_ones t_undecided t_answers t_primeCounts t_sizes t_codes)) (wN := (wX5 kI kJ to ta t_inputs t_undecidedPairs t_parts t_sharedParts t_partCares t_zeros t_ones t_undecided t_answers t_primeCounts t_sizes t_codes)) hE (c_X2_inProduct l D kI kJ kS t_inputs (q_1 / 64) (q_1 - q_1 / 64 * 64)  hq_2) (va_cwS 3 hts gX5_productNumber_X2_inProduct rfl rfl rfl (by decide +kernel) ⟨Nat.le_of_ble_eq_true rfl, Nat.le_of_ble_eq_true rfl⟩) hP hD hS [] [0, 1, 2, 3, 4, 5, 6, 7] [0, 1, 2, 3, 4, 5, 6, 7] rfl rfl rfl rfl (by decide) rfl rfl rfl hl.1 rfl (Nat.le_of_ble_eq_true rfl) dX5_productNumber_70 ⟨Nat.le_of_ble_eq_true rfl, Nat.le_of_ble_eq_true rfl⟩ (fun H locs hP hD hS => ?_)
      obtain ⟨q_3, hq_3, hrun⟩ := bd_some hrun
      refine cI_callS (As := [.long q_2]) (rest := []) (wr := (wX5 kI kJ to ta t_inputs t_undecidedPairs t_parts t_sharedParts t_partCares t_zeros t_ones t_undecided t_answers t_primeCounts t_sizes t_codes)) (wN := (wX5 kI kJ to ta t_inputs t_undecidedPairs t_parts t_sharedParts t_partCares t_zeros t_ones t_undecided t_answers t_primeCounts t_sizes t_codes)) hE (c_J13_bitCount_95d88 l D kI kJ kS q_2  hq_3) (va_cwS 1 hts gX5_productNumber_J13_bitCount_95d88 rfl rfl rfl (by decide +kernel) ⟨Nat.le_of_ble_eq_true rfl, Nat.le_of_ble_eq_true rfl⟩) hP hD hS [] [0, 1, 2, 3, 4, 5, 6, 7] [0, 1, 2, 3, 4, 5, 6, 7] rfl rfl rfl rfl (by decide) rfl rfl rfl hl.1 rfl (Nat.le_of_ble_eq_true rfl) dX5_productNumber_73 ⟨Nat.le_of_ble_eq_true rfl, Nat.le_of_ble_eq_true rfl⟩ (fun H locs hP hD hS => ?_)
      obtain rfl := Option.some.inj hrun
      exact hret _ _ _ _ rfl dX5_productNumber_76 hP hD hS
    have hrun := it_f hs2 hrun
    refine lv_tableOut (tgt := 77) hx hb dX5_productNumber_31 (sw_out [0, 1, 2] (by decide) (by decide) (by decide) (⟨hs0, hs1, hs2, trivial⟩)) (by decide) ?_
    refine lv_aload_n hx hb dX5_productNumber_77 rfl (lv_at hl 3 rfl) ?_
    refine lv_iload hx hb dX5_productNumber_78 (lv_at hl 2 rfl) ?_
    obtain ⟨q_4, hq_4, hrun⟩ := bd_some hrun
    refine cI_callV (As := [.int q_1]) (rest := []) (wr := []) (wN := (wX5 kI kJ to ta t_inputs t_undecidedPairs t_parts t_sharedParts t_partCares t_zeros t_ones t_undecided t_answers t_primeCounts t_sizes t_codes)) (ci := 4) (q0 := 0) hE (c_X5_holdersOf l D kI kJ kS to ta q_1 t_inputs t_undecidedPairs t_parts t_sharedParts t_partCares t_zeros t_ones t_undecided t_answers t_primeCounts t_sizes t_codes hq_4) (cwV 1 hts gX5_productNumber_X5_holdersOf rfl rfl rfl (by decide +kernel) ⟨Nat.le_of_ble_eq_true rfl, Nat.le_of_ble_eq_true rfl⟩) hP hD hS [0, 1, 2, 3, 4, 5, 6, 7] [] [0, 1, 2, 3, 4, 5, 6, 7] rfl rfl rfl rfl (by decide) rfl rfl rfl rfl rfl hl.1 rfl (Nat.le_of_ble_eq_true rfl) dX5_productNumber_80 ⟨Nat.le_of_ble_eq_true rfl, Nat.le_of_ble_eq_true rfl⟩ (fun H locs hP hD hS => ?_)
    obtain ⟨q_5, hq_5, hrun⟩ := bd_some hrun
    refine cI_callS (As := [.int q_4]) (rest := []) (wr := (wX5 kI kJ to ta t_inputs t_undecidedPairs t_parts t_sharedParts t_partCares t_zeros t_ones t_undecided t_answers t_primeCounts t_sizes t_codes)) (wN := (wX5 kI kJ to ta t_inputs t_undecidedPairs t_parts t_sharedParts t_partCares t_zeros t_ones t_undecided t_answers t_primeCounts t_sizes t_codes)) hE (c_J6_bitCount_0f7a4 l D kI kJ kS q_4  hq_5) (va_cwS 1 hts gX5_productNumber_J6_bitCount_0f7a4 rfl rfl rfl (by decide +kernel) ⟨Nat.le_of_ble_eq_true rfl, Nat.le_of_ble_eq_true rfl⟩) hP hD hS [] [0, 1, 2, 3, 4, 5, 6, 7] [0, 1, 2, 3, 4, 5, 6, 7] rfl rfl rfl rfl (by decide) rfl rfl rfl hl.1 rfl (Nat.le_of_ble_eq_true rfl) dX5_productNumber_83 ⟨Nat.le_of_ble_eq_true rfl, Nat.le_of_ble_eq_true rfl⟩ (fun H locs hP hD hS => ?_)
    obtain rfl := Option.some.inj hrun
    exact hret _ _ _ _ rfl dX5_productNumber_86 hP hD hS
  · have hrun := it_t hc hrun
    refine lv_iconst (v := (-1)) hx hb dX5_productNumber_14 (by decide) ?_
    obtain rfl := Option.some.inj hrun
    exact hret _ _ _ _ rfl dX5_productNumber_15 hP hD hS
