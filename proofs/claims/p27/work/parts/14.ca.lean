theorem mX3_copyFrom_5 : Cond.fieldLink RX3 9 "GateMaze$State" "zeros" "[J" ∈ wsX3_copyFrom := List.mem_of_getElem? (i := 5) rfl
theorem mX3_copyFrom_6 : Cond.fieldLink RX3 15 "GateMaze$State" "ones" "[J" ∈ wsX3_copyFrom := List.mem_of_getElem? (i := 6) rfl
theorem mX3_copyFrom_7 : Cond.fieldLink RX3 18 "GateMaze$State" "alarms" "[I" ∈ wsX3_copyFrom := List.mem_of_getElem? (i := 7) rfl
theorem mX3_copyFrom_8 : Cond.fieldLink RX3 22 "GateMaze$State" "faults" "[I" ∈ wsX3_copyFrom := List.mem_of_getElem? (i := 8) rfl
theorem mX3_copyFrom_1 : Cond.fieldLink RX3 25 "GateMaze$State" "inputs" "I" ∈ wsX3_copyFrom := List.mem_of_getElem? (i := 1) rfl
theorem mX3_copyFrom_2 : Cond.fieldLink RX3 35 "GateMaze$State" "remembered" "I" ∈ wsX3_copyFrom := List.mem_of_getElem? (i := 2) rfl
theorem mX3_copyFrom_3 : Cond.fieldLink RX3 42 "GateMaze$State" "asks" "I" ∈ wsX3_copyFrom := List.mem_of_getElem? (i := 3) rfl
theorem mX3_copyFrom_4 : Cond.fieldLink RX3 45 "GateMaze$State" "hours" "I" ∈ wsX3_copyFrom := List.mem_of_getElem? (i := 4) rfl
theorem iX3_copyFrom_X3 : ∀ w ∈ u_ws RX3 TX3 8, w ∈ wsX3_copyFrom := fun w h => List.mem_cons_of_mem _ (List.mem_append_right _ h)
set_option maxHeartbeats 4000000 in
set_option maxRecDepth 100000 in
theorem c_X3_copyFrom (l : Launch) (D : va_G) (kI kJ kS : ClassId) (to : Nat) (ta : Nat → Nat) (ao : Nat) (aa : Nat → Nat) (t_inputs : Int32) (t_remembered : Int32) (t_asks : Int32) (t_hours : Int32) (t_zeros : (Nat → Int64)) (t_ones : (Nat → Int64)) (t_alarms : (Nat → Int32)) (t_faults : (Nat → Int32)) (a_inputs : Int32) (a_remembered : Int32) (a_asks : Int32) (a_hours : Int32) (a_zeros : (Nat → Int64)) (a_ones : (Nat → Int64)) (a_alarms : (Nat → Int32)) (a_faults : (Nat → Int32)) {r : Int32 × Int32 × Int32 × Int32 × (Nat → Int64) × (Nat → Int64) × (Nat → Int32) × (Nat → Int32)} (hrun : fX3_copyFrom t_zeros t_ones t_alarms t_faults a_inputs a_remembered a_asks a_hours a_zeros a_ones a_alarms a_faults = some r) : cV l D (tyL kI kJ kS) true yX3_copyFrom wsX3_copyFrom (rmk 0 0 0 0) [.ref to, .ref ao] (wX3 kI kJ to ta t_inputs t_remembered t_asks t_hours t_zeros t_ones t_alarms t_faults ++ (wX3 kI kJ ao aa a_inputs a_remembered a_asks a_hours a_zeros a_ones a_alarms a_faults)) (wX3 kI kJ to ta r.1 r.2.1 r.2.2.1 r.2.2.2.1 r.2.2.2.2.1 r.2.2.2.2.2.1 r.2.2.2.2.2.2.1 r.2.2.2.2.2.2.2 ++ (wX3 kI kJ ao aa a_inputs a_remembered a_asks a_hours a_zeros a_ones a_alarms a_faults)) := by
  refine cV_of (cc := cX3_copyFrom) (maxL := 3) (by decide) rfl (Nat.le_of_ble_eq_true rfl) ?_
  intro p e s m av below meth c A Q ls hE hP hD hS hl hret
  have hE : ent_ p s m av meth c RX3 cX3_copyFrom 3 none wsX3_copyFrom (tyL kI kJ kS) D A true := hE
  obtain ⟨hx, hb, hml, hown, hts, hr, hlocks, hK, hA, hst⟩ := id hE
  have hl : lv_has ls 3 [(0, .ref to), (1, .ref ao)] := hl
  obtain ⟨⟨⟨tW, hZ, hT⟩, hU1, hU2⟩, hnk⟩ := hst rfl
  have c_L34 : ∀ (t_inputs : Int32) (t_remembered : Int32) (t_asks : Int32) (t_hours : Int32) (n : Nat) (x2 : Int32) (t_zeros : (Nat → Int64)) (t_ones : (Nat → Int64)) (t_alarms : (Nat → Int32)) (t_faults : (Nat → Int32)), fX3_copyFrom_L34 t_inputs t_remembered t_asks t_hours a_zeros a_ones a_alarms a_faults n x2 t_zeros t_ones t_alarms t_faults = some r → wAt p l e (rmk 0 0 0 0) s m av below meth c D A 3 0 0 Q 34 [] [(0, .ref to), (1, .ref ao), (2, .int x2)] (wX3 kI kJ to ta t_inputs t_remembered t_asks t_hours t_zeros t_ones t_alarms t_faults ++ (wX3 kI kJ ao aa a_inputs a_remembered a_asks a_hours a_zeros a_ones a_alarms a_faults)) := by
    intro t_inputs t_remembered t_asks t_hours n
    induction n with
    | zero =>
      intro x2 t_zeros t_ones t_alarms t_faults hrun
      rw [fX3_copyFrom_L34] at hrun
      cases hrun
    | succ n ih =>
      intro x2 t_zeros t_ones t_alarms t_faults hrun H locs ls hP hD hS hl
      rw [fX3_copyFrom_L34] at hrun
      refine lv_iload_n hx hb dX3_copyFrom_34 rfl (lv_at hl 2 rfl) ?_
      refine lv_iconst (v := 4) hx hb dX3_copyFrom_35 (by decide) ?_
      refine lv_icmp_ge (tgt := 93) hx hb dX3_copyFrom_36 (by decide) (fun hc => ?_) (fun hc => ?_)
      · have hrun := it_t hc hrun
        obtain rfl := Option.some.inj hrun
        exact hret _ _ _ _ dX3_copyFrom_93 hP hD hS
      · have hrun := it_f hc hrun
        refine lv_aload_n hx hb dX3_copyFrom_39 rfl (lv_at hl 0 rfl) ?_
        refine va_get (D := D) (ci := 2) (v := .ref (ta 0)) (C := RX3) (T := TX3) (N := 8) hx hb hts iX3_copyFrom_X3 hown hK hP 0 rfl rfl 4 (by decide) (hts _ mX3_copyFrom_5) (fun _ h9 => h9) rfl dX3_copyFrom_40 ?_
        refine lv_iload_n hx hb dX3_copyFrom_43 rfl (lv_at hl 2 rfl) ?_
        refine lv_aload_n hx hb dX3_copyFrom_44 rfl (lv_at hl 1 rfl) ?_
        refine va_get (D := D) (ci := 2) (v := .ref (aa 0)) (C := RX3) (T := TX3) (N := 8) hx hb hts iX3_copyFrom_X3 hown hK hP 5 rfl rfl 4 (by decide) (hts _ mX3_copyFrom_5) (fun _ h9 => h9) rfl dX3_copyFrom_45 ?_
        refine lv_iload_n hx hb dX3_copyFrom_48 rfl (lv_at hl 2 rfl) ?_
        obtain ⟨hin, hrun⟩ := gd_some hrun
        refine va_lald hx hb hK hP 6 1 rfl rfl hin dX3_copyFrom_49 ?_
        obtain ⟨hin, hrun⟩ := gd_some hrun
        refine va_last hx hb hK hP hD hS 1 1 rfl rfl hin dX3_copyFrom_50 (fun H locs hP hD hS => ?_)
        have hP : va_P D vwCl (wX3 kI kJ to ta t_inputs t_remembered t_asks t_hours (vp_updL t_zeros x2.toNatClampNeg (a_zeros x2.toNatClampNeg)) t_ones t_alarms t_faults ++ (wX3 kI kJ ao aa a_inputs a_remembered a_asks a_hours a_zeros a_ones a_alarms a_faults)) H := hP
        have hD : va_D A (wX3 kI kJ to ta t_inputs t_remembered t_asks t_hours (vp_updL t_zeros x2.toNatClampNeg (a_zeros x2.toNatClampNeg)) t_ones t_alarms t_faults ++ (wX3 kI kJ ao aa a_inputs a_remembered a_asks a_hours a_zeros a_ones a_alarms a_faults)) := hD
        refine lv_aload_n hx hb dX3_copyFrom_51 rfl (lv_at hl 0 rfl) ?_
        refine va_get (D := D) (ci := 2) (v := .ref (ta 1)) (C := RX3) (T := TX3) (N := 8) hx hb hts iX3_copyFrom_X3 hown hK hP 0 rfl rfl 5 (by decide) (hts _ mX3_copyFrom_6) (fun _ h9 => h9) rfl dX3_copyFrom_52 ?_
        refine lv_iload_n hx hb dX3_copyFrom_55 rfl (lv_at hl 2 rfl) ?_
        refine lv_aload_n hx hb dX3_copyFrom_56 rfl (lv_at hl 1 rfl) ?_
        refine va_get (D := D) (ci := 2) (v := .ref (aa 1)) (C := RX3) (T := TX3) (N := 8) hx hb hts iX3_copyFrom_X3 hown hK hP 5 rfl rfl 5 (by decide) (hts _ mX3_copyFrom_6) (fun _ h9 => h9) rfl dX3_copyFrom_57 ?_
        refine lv_iload_n hx hb dX3_copyFrom_60 rfl (lv_at hl 2 rfl) ?_
        obtain ⟨hin, hrun⟩ := gd_some hrun
        refine va_lald hx hb hK hP 7 1 rfl rfl hin dX3_copyFrom_61 ?_
        obtain ⟨hin, hrun⟩ := gd_some hrun
        refine va_last hx hb hK hP hD hS 2 1 rfl rfl hin dX3_copyFrom_62 (fun H locs hP hD hS => ?_)
        have hP : va_P D vwCl (wX3 kI kJ to ta t_inputs t_remembered t_asks t_hours (vp_updL t_zeros x2.toNatClampNeg (a_zeros x2.toNatClampNeg)) (vp_updL t_ones x2.toNatClampNeg (a_ones x2.toNatClampNeg)) t_alarms t_faults ++ (wX3 kI kJ ao aa a_inputs a_remembered a_asks a_hours a_zeros a_ones a_alarms a_faults)) H := hP
        have hD : va_D A (wX3 kI kJ to ta t_inputs t_remembered t_asks t_hours (vp_updL t_zeros x2.toNatClampNeg (a_zeros x2.toNatClampNeg)) (vp_updL t_ones x2.toNatClampNeg (a_ones x2.toNatClampNeg)) t_alarms t_faults ++ (wX3 kI kJ ao aa a_inputs a_remembered a_asks a_hours a_zeros a_ones a_alarms a_faults)) := hD
        refine lv_aload_n hx hb dX3_copyFrom_63 rfl (lv_at hl 0 rfl) ?_
        refine va_get (D := D) (ci := 2) (v := .ref (ta 2)) (C := RX3) (T := TX3) (N := 8) hx hb hts iX3_copyFrom_X3 hown hK hP 0 rfl rfl 6 (by decide) (hts _ mX3_copyFrom_7) (fun _ h9 => h9) rfl dX3_copyFrom_64 ?_
        refine lv_iload_n hx hb dX3_copyFrom_67 rfl (lv_at hl 2 rfl) ?_
        refine lv_aload_n hx hb dX3_copyFrom_68 rfl (lv_at hl 1 rfl) ?_
        refine va_get (D := D) (ci := 2) (v := .ref (aa 2)) (C := RX3) (T := TX3) (N := 8) hx hb hts iX3_copyFrom_X3 hown hK hP 5 rfl rfl 6 (by decide) (hts _ mX3_copyFrom_7) (fun _ h9 => h9) rfl dX3_copyFrom_69 ?_
        refine lv_iload_n hx hb dX3_copyFrom_72 rfl (lv_at hl 2 rfl) ?_
        obtain ⟨hin, hrun⟩ := gd_some hrun
        refine va_iald hx hb hK hP 8 0 rfl rfl hin dX3_copyFrom_73 ?_
        obtain ⟨hin, hrun⟩ := gd_some hrun
        refine va_iast hx hb hK hP hD hS 3 0 rfl rfl hin dX3_copyFrom_74 (fun H locs hP hD hS => ?_)
        have hP : va_P D vwCl (wX3 kI kJ to ta t_inputs t_remembered t_asks t_hours (vp_updL t_zeros x2.toNatClampNeg (a_zeros x2.toNatClampNeg)) (vp_updL t_ones x2.toNatClampNeg (a_ones x2.toNatClampNeg)) (upd t_alarms x2.toNatClampNeg (a_alarms x2.toNatClampNeg)) t_faults ++ (wX3 kI kJ ao aa a_inputs a_remembered a_asks a_hours a_zeros a_ones a_alarms a_faults)) H := hP
        have hD : va_D A (wX3 kI kJ to ta t_inputs t_remembered t_asks t_hours (vp_updL t_zeros x2.toNatClampNeg (a_zeros x2.toNatClampNeg)) (vp_updL t_ones x2.toNatClampNeg (a_ones x2.toNatClampNeg)) (upd t_alarms x2.toNatClampNeg (a_alarms x2.toNatClampNeg)) t_faults ++ (wX3 kI kJ ao aa a_inputs a_remembered a_asks a_hours a_zeros a_ones a_alarms a_faults)) := hD
        refine lv_aload_n hx hb dX3_copyFrom_75 rfl (lv_at hl 0 rfl) ?_
        refine va_get (D := D) (ci := 2) (v := .ref (ta 3)) (C := RX3) (T := TX3) (N := 8) hx hb hts iX3_copyFrom_X3 hown hK hP 0 rfl rfl 7 (by decide) (hts _ mX3_copyFrom_8) (fun _ h9 => h9) rfl dX3_copyFrom_76 ?_
        refine lv_iload_n hx hb dX3_copyFrom_79 rfl (lv_at hl 2 rfl) ?_
        refine lv_aload_n hx hb dX3_copyFrom_80 rfl (lv_at hl 1 rfl) ?_
        refine va_get (D := D) (ci := 2) (v := .ref (aa 3)) (C := RX3) (T := TX3) (N := 8) hx hb hts iX3_copyFrom_X3 hown hK hP 5 rfl rfl 7 (by decide) (hts _ mX3_copyFrom_8) (fun _ h9 => h9) rfl dX3_copyFrom_81 ?_
        refine lv_iload_n hx hb dX3_copyFrom_84 rfl (lv_at hl 2 rfl) ?_
        obtain ⟨hin, hrun⟩ := gd_some hrun
        refine va_iald hx hb hK hP 9 0 rfl rfl hin dX3_copyFrom_85 ?_
        obtain ⟨hin, hrun⟩ := gd_some hrun
        refine va_iast hx hb hK hP hD hS 4 0 rfl rfl hin dX3_copyFrom_86 (fun H locs hP hD hS => ?_)
        have hP : va_P D vwCl (wX3 kI kJ to ta t_inputs t_remembered t_asks t_hours (vp_updL t_zeros x2.toNatClampNeg (a_zeros x2.toNatClampNeg)) (vp_updL t_ones x2.toNatClampNeg (a_ones x2.toNatClampNeg)) (upd t_alarms x2.toNatClampNeg (a_alarms x2.toNatClampNeg)) (upd t_faults x2.toNatClampNeg (a_faults x2.toNatClampNeg)) ++ (wX3 kI kJ ao aa a_inputs a_remembered a_asks a_hours a_zeros a_ones a_alarms a_faults)) H := hP
        have hD : va_D A (wX3 kI kJ to ta t_inputs t_remembered t_asks t_hours (vp_updL t_zeros x2.toNatClampNeg (a_zeros x2.toNatClampNeg)) (vp_updL t_ones x2.toNatClampNeg (a_ones x2.toNatClampNeg)) (upd t_alarms x2.toNatClampNeg (a_alarms x2.toNatClampNeg)) (upd t_faults x2.toNatClampNeg (a_faults x2.toNatClampNeg)) ++ (wX3 kI kJ ao aa a_inputs a_remembered a_asks a_hours a_zeros a_ones a_alarms a_faults)) := hD
        refine lv_iinc (v := x2 + 1) (lv' := [(2, .int (x2 + 1)), (0, .ref to), (1, .ref ao)]) hx hb dX3_copyFrom_87 hl (k := 2) rfl rfl (by decide) rfl (fun ls hl => ?_)
        refine lv_goto (tgt := 34) hx hb dX3_copyFrom_90 (by decide) ?_
        exact ih (x2 + 1) (vp_updL t_zeros x2.toNatClampNeg (a_zeros x2.toNatClampNeg)) (vp_updL t_ones x2.toNatClampNeg (a_ones x2.toNatClampNeg)) (upd t_alarms x2.toNatClampNeg (a_alarms x2.toNatClampNeg)) (upd t_faults x2.toNatClampNeg (a_faults x2.toNatClampNeg))  hrun _ _ _ hP hD hS (lv_sub hl [1, 2, 0] rfl)
  unfold fX3_copyFrom at hrun
  refine lv_aload_n hx hb dX3_copyFrom_0 rfl (lv_at hl 0 rfl) ?_
  refine lv_aload_n hx hb dX3_copyFrom_1 rfl (lv_at hl 1 rfl) ?_
  refine va_get (D := D) (ci := 2) (v := .int a_inputs) (C := RX3) (T := TX3) (N := 8) hx hb hts iX3_copyFrom_X3 hown hK hP 5 rfl rfl 0 (by decide) (hts _ mX3_copyFrom_1) (fun _ h9 => h9) rfl dX3_copyFrom_2 ?_
  refine va_put (D := D) (ci := 2) (v := .int a_inputs) (ty := .int) (C := RX3) (T := TX3) (N := 8) hx hb hts iX3_copyFrom_X3 tyX3 tyX3_ok nmX3 hown hK hP hD hS 0 rfl rfl 0 (by decide) (hts _ mX3_copyFrom_1) (fun _ h9 => h9) rfl (by decide +kernel) rfl rfl (Nat.le_of_ble_eq_true rfl) dX3_copyFrom_5 (fun H locs hP hD hS => ?_)
  have hP : va_P D vwCl (wX3 kI kJ to ta a_inputs t_remembered t_asks t_hours t_zeros t_ones t_alarms t_faults ++ (wX3 kI kJ ao aa a_inputs a_remembered a_asks a_hours a_zeros a_ones a_alarms a_faults)) H := hP
  have hD : va_D A (wX3 kI kJ to ta a_inputs t_remembered t_asks t_hours t_zeros t_ones t_alarms t_faults ++ (wX3 kI kJ ao aa a_inputs a_remembered a_asks a_hours a_zeros a_ones a_alarms a_faults)) := hD
  refine lv_aload_n hx hb dX3_copyFrom_8 rfl (lv_at hl 0 rfl) ?_
  refine lv_aload_n hx hb dX3_copyFrom_9 rfl (lv_at hl 1 rfl) ?_
  refine va_get (D := D) (ci := 2) (v := .int a_remembered) (C := RX3) (T := TX3) (N := 8) hx hb hts iX3_copyFrom_X3 hown hK hP 5 rfl rfl 1 (by decide) (hts _ mX3_copyFrom_2) (fun _ h9 => h9) rfl dX3_copyFrom_10 ?_
  refine va_put (D := D) (ci := 2) (v := .int a_remembered) (ty := .int) (C := RX3) (T := TX3) (N := 8) hx hb hts iX3_copyFrom_X3 tyX3 tyX3_ok nmX3 hown hK hP hD hS 0 rfl rfl 1 (by decide) (hts _ mX3_copyFrom_2) (fun _ h9 => h9) rfl (by decide +kernel) rfl rfl (Nat.le_of_ble_eq_true rfl) dX3_copyFrom_13 (fun H locs hP hD hS => ?_)
  have hP : va_P D vwCl (wX3 kI kJ to ta a_inputs a_remembered t_asks t_hours t_zeros t_ones t_alarms t_faults ++ (wX3 kI kJ ao aa a_inputs a_remembered a_asks a_hours a_zeros a_ones a_alarms a_faults)) H := hP
  have hD : va_D A (wX3 kI kJ to ta a_inputs a_remembered t_asks t_hours t_zeros t_ones t_alarms t_faults ++ (wX3 kI kJ ao aa a_inputs a_remembered a_asks a_hours a_zeros a_ones a_alarms a_faults)) := hD
  refine lv_aload_n hx hb dX3_copyFrom_16 rfl (lv_at hl 0 rfl) ?_
  refine lv_aload_n hx hb dX3_copyFrom_17 rfl (lv_at hl 1 rfl) ?_
  refine va_get (D := D) (ci := 2) (v := .int a_asks) (C := RX3) (T := TX3) (N := 8) hx hb hts iX3_copyFrom_X3 hown hK hP 5 rfl rfl 2 (by decide) (hts _ mX3_copyFrom_3) (fun _ h9 => h9) rfl dX3_copyFrom_18 ?_
  refine va_put (D := D) (ci := 2) (v := .int a_asks) (ty := .int) (C := RX3) (T := TX3) (N := 8) hx hb hts iX3_copyFrom_X3 tyX3 tyX3_ok nmX3 hown hK hP hD hS 0 rfl rfl 2 (by decide) (hts _ mX3_copyFrom_3) (fun _ h9 => h9) rfl (by decide +kernel) rfl rfl (Nat.le_of_ble_eq_true rfl) dX3_copyFrom_21 (fun H locs hP hD hS => ?_)
  have hP : va_P D vwCl (wX3 kI kJ to ta a_inputs a_remembered a_asks t_hours t_zeros t_ones t_alarms t_faults ++ (wX3 kI kJ ao aa a_inputs a_remembered a_asks a_hours a_zeros a_ones a_alarms a_faults)) H := hP
  have hD : va_D A (wX3 kI kJ to ta a_inputs a_remembered a_asks t_hours t_zeros t_ones t_alarms t_faults ++ (wX3 kI kJ ao aa a_inputs a_remembered a_asks a_hours a_zeros a_ones a_alarms a_faults)) := hD
  refine lv_aload_n hx hb dX3_copyFrom_24 rfl (lv_at hl 0 rfl) ?_
  refine lv_aload_n hx hb dX3_copyFrom_25 rfl (lv_at hl 1 rfl) ?_
  refine va_get (D := D) (ci := 2) (v := .int a_hours) (C := RX3) (T := TX3) (N := 8) hx hb hts iX3_copyFrom_X3 hown hK hP 5 rfl rfl 3 (by decide) (hts _ mX3_copyFrom_4) (fun _ h9 => h9) rfl dX3_copyFrom_26 ?_
  refine va_put (D := D) (ci := 2) (v := .int a_hours) (ty := .int) (C := RX3) (T := TX3) (N := 8) hx hb hts iX3_copyFrom_X3 tyX3 tyX3_ok nmX3 hown hK hP hD hS 0 rfl rfl 3 (by decide) (hts _ mX3_copyFrom_4) (fun _ h9 => h9) rfl (by decide +kernel) rfl rfl (Nat.le_of_ble_eq_true rfl) dX3_copyFrom_29 (fun H locs hP hD hS => ?_)
  have hP : va_P D vwCl (wX3 kI kJ to ta a_inputs a_remembered a_asks a_hours t_zeros t_ones t_alarms t_faults ++ (wX3 kI kJ ao aa a_inputs a_remembered a_asks a_hours a_zeros a_ones a_alarms a_faults)) H := hP
  have hD : va_D A (wX3 kI kJ to ta a_inputs a_remembered a_asks a_hours t_zeros t_ones t_alarms t_faults ++ (wX3 kI kJ ao aa a_inputs a_remembered a_asks a_hours a_zeros a_ones a_alarms a_faults)) := hD
  refine lv_iconst (v := 0) hx hb dX3_copyFrom_32 (by decide) ?_
  refine lv_istore_n (lv' := [(2, .int 0), (0, .ref to), (1, .ref ao)]) hx hb dX3_copyFrom_33 rfl hl (by decide) rfl (fun ls hl => ?_)
  exact c_L34 a_inputs a_remembered a_asks a_hours 5000 0 t_zeros t_ones t_alarms t_faults  hrun _ _ _ hP hD hS (lv_sub hl [1, 2, 0] rfl)
theorem mJ13_bitCount_95d88_1 : Cond.constantLong RJ13 314 (6148914691236517205) ∈ wsJ13_bitCount_95d88 := List.mem_of_getElem? (i := 1) rfl
theorem mJ13_bitCount_95d88_2 : Cond.constantLong RJ13 316 (3689348814741910323) ∈ wsJ13_bitCount_95d88 := List.mem_of_getElem? (i := 2) rfl
theorem mJ13_bitCount_95d88_3 : Cond.constantLong RJ13 318 (1085102592571150095) ∈ wsJ13_bitCount_95d88 := List.mem_of_getElem? (i := 3) rfl
set_option maxHeartbeats 4000000 in
set_option maxRecDepth 100000 in
theorem c_J13_bitCount_95d88 (l : Launch) (D : va_G) (kI kJ kS : ClassId) (x0 : Int64) {r : Int32} (hrun : fJ13_bitCount_95d88 x0 = some r) : cI l D (tyL kI kJ kS) true yJ13_bitCount_95d88 wsJ13_bitCount_95d88 (rmk 0 0 0 0) [.long x0] [] [] r := by
  refine cI_of (cc := cJ13_bitCount_95d88) (maxL := 2) (by decide) rfl (Nat.le_of_ble_eq_true rfl) ?_
  intro p e s m av below meth c A Q ls hE hP hD hS hl hret
  have hE : ent_ p s m av meth c RJ13 cJ13_bitCount_95d88 2 (some .int) wsJ13_bitCount_95d88 (tyL kI kJ kS) D A true := hE
  obtain ⟨hx, hb, hml, hown, hts, hr, hlocks, hK, hA, hst⟩ := id hE
  have hl : lv_has ls 2 [(0, .long x0)] := hl
  obtain ⟨⟨⟨tW, hZ, hT⟩, hU1, hU2⟩, hnk⟩ := hst rfl
  unfold fJ13_bitCount_95d88 at hrun
  refine lv_lload_n hx hb dJ13_bitCount_95d88_0 rfl (lv_at hl 0 rfl) ?_
  refine lv_lload_n hx hb dJ13_bitCount_95d88_1 rfl (lv_at hl 0 rfl) ?_
  refine lv_iconst (v := 1) hx hb dJ13_bitCount_95d88_2 (by decide) ?_
  refine lv_lushr hx hb dJ13_bitCount_95d88_3 rfl ?_
  refine lv_ldc2 (v := 6148914691236517205) hx hb hown (hts _ mJ13_bitCount_95d88_1) dJ13_bitCount_95d88_4 ?_
  refine lv_land hx hb dJ13_bitCount_95d88_7 ?_
  refine lv_lsub hx hb dJ13_bitCount_95d88_8 ?_
  refine lv_lstore_n (lv' := [(0, .long (x0 - ((lus_ x0 1) &&& 6148914691236517205)))]) hx hb dJ13_bitCount_95d88_9 rfl hl (by decide) rfl (fun ls hl => ?_)
  refine lv_lload_n hx hb dJ13_bitCount_95d88_10 rfl (lv_at hl 0 rfl) ?_
  refine lv_ldc2 (v := 3689348814741910323) hx hb hown (hts _ mJ13_bitCount_95d88_2) dJ13_bitCount_95d88_11 ?_
  refine lv_land hx hb dJ13_bitCount_95d88_14 ?_
  refine lv_lload_n hx hb dJ13_bitCount_95d88_15 rfl (lv_at hl 0 rfl) ?_
  refine lv_iconst (v := 2) hx hb dJ13_bitCount_95d88_16 (by decide) ?_
  refine lv_lushr hx hb dJ13_bitCount_95d88_17 rfl ?_
  refine lv_ldc2 (v := 3689348814741910323) hx hb hown (hts _ mJ13_bitCount_95d88_2) dJ13_bitCount_95d88_18 ?_
  refine lv_land hx hb dJ13_bitCount_95d88_21 ?_
  refine lv_ladd hx hb dJ13_bitCount_95d88_22 ?_
  refine lv_topl (fun v_1 ev_1 => ?_)
  have hrun := lt_some ev_1 hrun
  refine lv_lstore_n (lv' := [(0, .long v_1)]) hx hb dJ13_bitCount_95d88_23 rfl hl (by decide) rfl (fun ls hl => ?_)
  refine lv_lload_n hx hb dJ13_bitCount_95d88_24 rfl (lv_at hl 0 rfl) ?_
  refine lv_lload_n hx hb dJ13_bitCount_95d88_25 rfl (lv_at hl 0 rfl) ?_
  refine lv_iconst (v := 4) hx hb dJ13_bitCount_95d88_26 (by decide) ?_
  refine lv_lushr hx hb dJ13_bitCount_95d88_27 rfl ?_
  refine lv_ladd hx hb dJ13_bitCount_95d88_28 ?_
  refine lv_ldc2 (v := 1085102592571150095) hx hb hown (hts _ mJ13_bitCount_95d88_3) dJ13_bitCount_95d88_29 ?_
  refine lv_land hx hb dJ13_bitCount_95d88_32 ?_
  refine lv_lstore_n (lv' := [(0, .long ((v_1 + (lus_ v_1 4)) &&& 1085102592571150095))]) hx hb dJ13_bitCount_95d88_33 rfl hl (by decide) rfl (fun ls hl => ?_)
  refine lv_lload_n hx hb dJ13_bitCount_95d88_34 rfl (lv_at hl 0 rfl) ?_
  refine lv_lload_n hx hb dJ13_bitCount_95d88_35 rfl (lv_at hl 0 rfl) ?_
  refine lv_bipush (v := 8) hx hb dJ13_bitCount_95d88_36 (by decide) ?_
  refine lv_lushr hx hb dJ13_bitCount_95d88_38 rfl ?_
  refine lv_ladd hx hb dJ13_bitCount_95d88_39 ?_
  refine lv_topl (fun v_2 ev_2 => ?_)
  have hrun := lt_some ev_2 hrun
  refine lv_lstore_n (lv' := [(0, .long v_2)]) hx hb dJ13_bitCount_95d88_40 rfl hl (by decide) rfl (fun ls hl => ?_)
  refine lv_lload_n hx hb dJ13_bitCount_95d88_41 rfl (lv_at hl 0 rfl) ?_
  refine lv_lload_n hx hb dJ13_bitCount_95d88_42 rfl (lv_at hl 0 rfl) ?_
  refine lv_bipush (v := 16) hx hb dJ13_bitCount_95d88_43 (by decide) ?_
  refine lv_lushr hx hb dJ13_bitCount_95d88_45 rfl ?_
  refine lv_ladd hx hb dJ13_bitCount_95d88_46 ?_
  refine lv_lstore_n (lv' := [(0, .long (v_2 + (lus_ v_2 16)))]) hx hb dJ13_bitCount_95d88_47 rfl hl (by decide) rfl (fun ls hl => ?_)
  refine lv_lload_n hx hb dJ13_bitCount_95d88_48 rfl (lv_at hl 0 rfl) ?_
  refine lv_lload_n hx hb dJ13_bitCount_95d88_49 rfl (lv_at hl 0 rfl) ?_
  refine lv_bipush (v := 32) hx hb dJ13_bitCount_95d88_50 (by decide) ?_
  refine lv_lushr hx hb dJ13_bitCount_95d88_52 rfl ?_
  refine lv_ladd hx hb dJ13_bitCount_95d88_53 ?_
  refine lv_lstore_n (lv' := [(0, .long ((v_2 + (lus_ v_2 16)) + (lus_ (v_2 + (lus_ v_2 16)) 32)))]) hx hb dJ13_bitCount_95d88_54 rfl hl (by decide) rfl (fun ls hl => ?_)
  refine lv_lload_n hx hb dJ13_bitCount_95d88_55 rfl (lv_at hl 0 rfl) ?_
  refine lv_l2i hx hb dJ13_bitCount_95d88_56 rfl ?_
  refine lv_bipush (v := 127) hx hb dJ13_bitCount_95d88_57 (by decide) ?_
  refine lv_iand hx hb dJ13_bitCount_95d88_59 ?_
  obtain rfl := Option.some.inj hrun
  exact hret _ _ _ _ rfl dJ13_bitCount_95d88_60 hP hD hS
theorem mX1_badWith_2 : Cond.constantLong RX1 44 (-1) ∈ wsX1_badWith := List.mem_of_getElem? (i := 2) rfl
theorem mX1_badWith_1 : Cond.fieldLink RX1 9 "GateMaze$Primes" "bad" "[J" ∈ wsX1_badWith := List.mem_of_getElem? (i := 1) rfl
theorem iX1_badWith_X1 : ∀ w ∈ u_ws RX1 TX1 4, w ∈ wsX1_badWith := fun w h => List.mem_cons_of_mem _ (List.mem_append_right _ h)
set_option maxHeartbeats 4000000 in
set_option maxRecDepth 100000 in
theorem c_X1_badWith (l : Launch) (D : va_G) (kI kJ kS : ClassId) (to : Nat) (ta : Nat → Nat) (x1 : Int32) (t_bad : (Nat → Int64)) (t_codes : (Nat → Int32)) (t_rows : (Nat → Int64)) (t_size : Int32) {r : Int64} (hrun : fX1_badWith t_bad x1 = some r) : cL l D (tyL kI kJ kS) true yX1_badWith wsX1_badWith (rmk 0 0 0 0) [.ref to, .int x1] (wX1 kI kJ to ta t_bad t_codes t_rows t_size) (wX1 kI kJ to ta t_bad t_codes t_rows t_size) r := by
  refine cL_of (cc := cX1_badWith) (maxL := 2) (by decide) rfl (Nat.le_of_ble_eq_true rfl) ?_
  intro p e s m av below meth c A Q ls hE hP hD hS hl hret
  have hE : ent_ p s m av meth c RX1 cX1_badWith 2 (some .long) wsX1_badWith (tyL kI kJ kS) D A true := hE
  obtain ⟨hx, hb, hml, hown, hts, hr, hlocks, hK, hA, hst⟩ := id hE
  have hl : lv_has ls 2 [(0, .ref to), (1, .int x1)] := hl
  obtain ⟨⟨⟨tW, hZ, hT⟩, hU1, hU2⟩, hnk⟩ := hst rfl
  have c_J19 : fX1_badWith_J19  = some r → wAt p l e (rmk 0 0 0 0) s m av below meth c D A 2 0 0 Q 19 [] [] (wX1 kI kJ to ta t_bad t_codes t_rows t_size) := by
    intro  hrun H locs ls hP hD hS hl
    unfold fX1_badWith_J19 at hrun
    refine lv_ldc2 (v := (-1)) hx hb hown (hts _ mX1_badWith_2) dX1_badWith_19 ?_
    obtain rfl := Option.some.inj hrun
    exact hret _ _ _ _ dX1_badWith_22 hP hD hS
  unfold fX1_badWith at hrun
  refine lv_iload_n hx hb dX1_badWith_0 rfl (lv_at hl 1 rfl) ?_
  refine lv_if_lt (tgt := 19) hx hb dX1_badWith_1 (by decide) (fun hc => ?_) (fun hc => ?_)
  · have hrun := it_t hc hrun
    exact c_J19   hrun _ _ _ hP hD hS (lv_sub hl [] rfl)
  · have hrun := it_f hc hrun
    refine lv_iload_n hx hb dX1_badWith_4 rfl (lv_at hl 1 rfl) ?_
    refine lv_bipush (v := 64) hx hb dX1_badWith_5 (by decide) ?_
    refine lv_icmp_ge (tgt := 19) hx hb dX1_badWith_7 (by decide) (fun hc => ?_) (fun hc => ?_)
    · have hrun := it_t hc hrun
      exact c_J19   hrun _ _ _ hP hD hS (lv_sub hl [] rfl)
    · have hrun := it_f hc hrun
      refine lv_aload_n hx hb dX1_badWith_10 rfl (lv_at hl 0 rfl) ?_
      refine va_get (D := D) (ci := 1) (v := .ref (ta 0)) (C := RX1) (T := TX1) (N := 4) hx hb hts iX1_badWith_X1 hown hK hP 0 rfl rfl 0 (by decide) (hts _ mX1_badWith_1) (fun _ h9 => h9) rfl dX1_badWith_11 ?_
      refine lv_iload_n hx hb dX1_badWith_14 rfl (lv_at hl 1 rfl) ?_
      obtain ⟨hin, hrun⟩ := gd_some hrun
      refine va_lald hx hb hK hP 1 1 rfl rfl hin dX1_badWith_15 ?_
      refine lv_goto (tgt := 22) hx hb dX1_badWith_16 (by decide) ?_
      obtain rfl := Option.some.inj hrun
      exact hret _ _ _ _ dX1_badWith_22 hP hD hS
theorem mX2_alikeTo_1 : Cond.fieldLink RX2 11 "GateMaze$Rows" "WITH_INPUT" "[J" ∈ wsX2_alikeTo := List.mem_of_getElem? (i := 1) rfl
theorem mX2_alikeTo_2 : Cond.constantLong RX2 9 (-1) ∈ wsX2_alikeTo := List.mem_of_getElem? (i := 2) rfl
set_option maxHeartbeats 4000000 in
set_option maxRecDepth 100000 in
theorem c_X2_alikeTo (l : Launch) (D : va_G) (kI kJ kS : ClassId) (x0 : Int64) (x2 : Int32) {r : Int64} (hrun : fX2_alikeTo x0 x2 = some r) : cL l D (tyL kI kJ kS) true yX2_alikeTo wsX2_alikeTo (rmk 0 0 0 0) [.long x0, .int x2] [] [] r := by
  refine cL_of (cc := cX2_alikeTo) (maxL := 9) (by decide) rfl (Nat.le_of_ble_eq_true rfl) ?_
  intro p e s m av below meth c A Q ls hE hP hD hS hl hret
  have hE : ent_ p s m av meth c RX2 cX2_alikeTo 9 (some .long) wsX2_alikeTo (tyL kI kJ kS) D A true := hE
  obtain ⟨hx, hb, hml, hown, hts, hr, hlocks, hK, hA, hst⟩ := id hE
  have hl : lv_has ls 9 [(0, .long x0), (2, .int x2)] := hl
  obtain ⟨⟨⟨tW, hZ, hT⟩, hU1, hU2⟩, hnk⟩ := hst rfl
  have c_J59 : ∀ (x2 : Int32) (x3 : Int64) (x5 : Int32) (k5 : Int64 → Int32 → Option (Int64)) (hk5 : (∀ (x3 : Int64) (x5 : Int32), k5 x3 x5 = some r → wAt p l e (rmk 0 0 0 0) s m av below meth c D A 9 0 0 Q 5 [] [(2, .int x2), (3, .long x3), (5, .int x5)] [])), fX2_alikeTo_J59 x2 x3 x5 k5 = some r → wAt p l e (rmk 0 0 0 0) s m av below meth c D A 9 0 0 Q 59 [] [(2, .int x2), (3, .long x3), (5, .int x5)] [] := by
    intro x2 x3 x5 k5 hk5 hrun H locs ls hP hD hS hl
    unfold fX2_alikeTo_J59 at hrun
    refine lv_iinc (v := x5 + 1) (lv' := [(5, .int (x5 + 1)), (2, .int x2), (3, .long x3)]) hx hb dX2_alikeTo_59 hl (k := 2) rfl rfl (by decide) rfl (fun ls hl => ?_)
    refine lv_goto (tgt := 5) hx hb dX2_alikeTo_62 (by decide) ?_
    exact hk5 x3 (x5 + 1)  hrun _ _ _ hP hD hS (lv_sub hl [1, 2, 0] rfl)
  have c_L5 : ∀ (x2 : Int32) (n : Nat) (x3 : Int64) (x5 : Int32), fX2_alikeTo_L5 x2 n x3 x5 = some r → wAt p l e (rmk 0 0 0 0) s m av below meth c D A 9 0 0 Q 5 [] [(2, .int x2), (3, .long x3), (5, .int x5)] [] := by
    intro x2 n
    induction n with
    | zero =>
      intro x3 x5 hrun
      rw [fX2_alikeTo_L5] at hrun
      cases hrun
    | succ n ih =>
      intro x3 x5 hrun H locs ls hP hD hS hl
      rw [fX2_alikeTo_L5] at hrun
      refine lv_iload hx hb dX2_alikeTo_5 (lv_at hl 2 rfl) ?_
      refine va_gets hx hb hZ hS hown (hts _ mX2_alikeTo_1) (fun _ h9 => h9) dX2_alikeTo_7 ?_
      refine va_tlen (v := 6) hx hb hT hS rfl dX2_alikeTo_10 ?_
      refine lv_icmp_ge (tgt := 65) hx hb dX2_alikeTo_11 (by decide) (fun hc => ?_) (fun hc => ?_)
      · have hrun := it_t hc hrun
        refine lv_lload_n hx hb dX2_alikeTo_65 rfl (lv_at hl 1 rfl) ?_
        obtain rfl := Option.some.inj hrun
        exact hret _ _ _ _ dX2_alikeTo_66 hP hD hS
      · have hrun := it_f hc hrun
        refine lv_iload_n hx hb dX2_alikeTo_14 rfl (lv_at hl 0 rfl) ?_
        refine lv_iload hx hb dX2_alikeTo_15 (lv_at hl 2 rfl) ?_
        refine lv_ishr hx hb dX2_alikeTo_17 ?_
        refine lv_iconst (v := 1) hx hb dX2_alikeTo_18 (by decide) ?_
        refine lv_iand hx hb dX2_alikeTo_19 ?_
        refine lv_if_eq (tgt := 59) hx hb dX2_alikeTo_20 (by decide) (fun hc => ?_) (fun hc => ?_)
        · have hrun := it_t hc hrun
          exact c_J59 x2 x3 x5 (fX2_alikeTo_L5 x2 n) ih  hrun _ _ _ hP hD hS (lv_sub hl [0, 1, 2] rfl)
        · have hrun := it_f hc hrun
          refine va_gets hx hb hZ hS hown (hts _ mX2_alikeTo_1) (fun _ h9 => h9) dX2_alikeTo_23 ?_
          refine lv_iload hx hb dX2_alikeTo_26 (lv_at hl 2 rfl) ?_
          obtain ⟨hin, hrun⟩ := gd_some hrun
          refine va_tl (v := .long (wIn x5.toNatClampNeg)) hx hb hT hS hin rfl dX2_alikeTo_28 ?_
          refine lv_lstore (lv' := [(6, .long (wIn x5.toNatClampNeg)), (2, .int x2), (3, .long x3), (5, .int x5)]) hx hb dX2_alikeTo_29 hl (by decide) rfl (fun ls hl => ?_)
          refine lv_iconst (v := 1) hx hb dX2_alikeTo_31 (by decide) ?_
          refine lv_iload hx hb dX2_alikeTo_32 (lv_at hl 3 rfl) ?_
          refine lv_ishl hx hb dX2_alikeTo_34 ?_
          refine lv_istore (lv' := [(8, .int ((1 : Int32) <<< (x5 &&& 31))), (6, .long (wIn x5.toNatClampNeg)), (2, .int x2), (3, .long x3), (5, .int x5)]) hx hb dX2_alikeTo_35 hl (by decide) rfl (fun ls hl => ?_)
          refine lv_lload_n hx hb dX2_alikeTo_37 rfl (lv_at hl 3 rfl) ?_
          refine lv_lload_n hx hb dX2_alikeTo_38 rfl (lv_at hl 3 rfl) ?_
          refine lv_lload hx hb dX2_alikeTo_39 (lv_at hl 1 rfl) ?_
          refine lv_land hx hb dX2_alikeTo_41 ?_
          refine lv_iload hx hb dX2_alikeTo_42 (lv_at hl 0 rfl) ?_
          refine lv_lushr hx hb dX2_alikeTo_44 rfl ?_
          refine lv_lload_n hx hb dX2_alikeTo_45 rfl (lv_at hl 3 rfl) ?_
          refine lv_lload hx hb dX2_alikeTo_46 (lv_at hl 1 rfl) ?_
          refine lv_ldc2 (v := (-1)) hx hb hown (hts _ mX2_alikeTo_2) dX2_alikeTo_48 ?_
          refine lv_lxor hx hb dX2_alikeTo_51 ?_
          refine lv_land hx hb dX2_alikeTo_52 ?_
          refine lv_iload hx hb dX2_alikeTo_53 (lv_at hl 0 rfl) ?_
          refine lv_lshl hx hb dX2_alikeTo_55 rfl ?_
          refine lv_lor hx hb dX2_alikeTo_56 ?_
          refine lv_lor hx hb dX2_alikeTo_57 ?_
          refine lv_topl (fun v_1 ev_1 => ?_)
          have hrun := lt_some ev_1 hrun
          refine lv_lstore_n (lv' := [(3, .long v_1), (8, .int ((1 : Int32) <<< (x5 &&& 31))), (6, .long (wIn x5.toNatClampNeg)), (2, .int x2), (5, .int x5)]) hx hb dX2_alikeTo_58 rfl hl (by decide) rfl (fun ls hl => ?_)
          exact c_J59 x2 v_1 x5 (fX2_alikeTo_L5 x2 n) ih  hrun _ _ _ hP hD hS (lv_sub hl [3, 0, 4] rfl)
  unfold fX2_alikeTo at hrun
  refine lv_lload_n hx hb dX2_alikeTo_0 rfl (lv_at hl 0 rfl) ?_
  refine lv_lstore_n (lv' := [(3, .long x0), (0, .long x0), (2, .int x2)]) hx hb dX2_alikeTo_1 rfl hl (by decide) rfl (fun ls hl => ?_)
  refine lv_iconst (v := 0) hx hb dX2_alikeTo_2 (by decide) ?_
  refine lv_istore (lv' := [(5, .int 0), (3, .long x0), (0, .long x0), (2, .int x2)]) hx hb dX2_alikeTo_3 hl (by decide) rfl (fun ls hl => ?_)
  exact c_L5 x2 5000 x0 0  hrun _ _ _ hP hD hS (lv_sub hl [3, 1, 0] rfl)
theorem mX1_findBad_1 : Cond.fieldLink RX1 9 "GateMaze$Primes" "bad" "[J" ∈ wsX1_findBad := List.mem_of_getElem? (i := 1) rfl
theorem iX1_findBad_X1 : ∀ w ∈ u_ws RX1 TX1 4, w ∈ wsX1_findBad := fun w h => List.mem_cons_of_mem _ (List.mem_append_right _ h)
set_option maxHeartbeats 4000000 in
set_option maxRecDepth 100000 in
theorem c_X1_findBad (l : Launch) (D : va_G) (kI kJ kS : ClassId) (to : Nat) (ta : Nat → Nat) (x1 : Int32) (x2 : Int64) (t_bad : (Nat → Int64)) (t_codes : (Nat → Int32)) (t_rows : (Nat → Int64)) (t_size : Int32) {r : Nat → Int64} (hrun : fX1_findBad t_bad x1 x2 = some r) : cV l D (tyL kI kJ kS) true yX1_findBad wsX1_findBad (rmk 1 0 0 28) [.ref to, .int x1, .long x2] (wX1 kI kJ to ta t_bad t_codes t_rows t_size) (wX1 kI kJ to ta r t_codes t_rows t_size) := by
  refine cV_of (cc := cX1_findBad) (maxL := 7) (by decide) rfl (Nat.le_of_ble_eq_true rfl) ?_
  intro p e s m av below meth c A Q ls hE hP hD hS hl hret
  have hE : ent_ p s m av meth c RX1 cX1_findBad 7 none wsX1_findBad (tyL kI kJ kS) D A true := hE
  obtain ⟨hx, hb, hml, hown, hts, hr, hlocks, hK, hA, hst⟩ := id hE
  have hl : lv_has ls 7 [(0, .ref to), (1, .int x1), (2, .long x2)] := hl
  obtain ⟨⟨⟨tW, hZ, hT⟩, hU1, hU2⟩, hnk⟩ := hst rfl
  have c_J64 : ∀ (x1 : Int32) (x2 : Int64) (x4 : Int32) (t_bad : (Nat → Int64)) (k4 : Int32 → (Nat → Int64) → Option (Nat → Int64)) (hk4 : (∀ (x4 : Int32) (t_bad : (Nat → Int64)), k4 x4 t_bad = some r → wAt p l e (rmk 1 0 0 28) s m av below meth c D A 7 0 0 Q 4 [] [(0, .ref to), (1, .int x1), (2, .long x2), (4, .int x4)] (wX1 kI kJ to ta t_bad t_codes t_rows t_size))), fX1_findBad_J64 x1 x2 x4 t_bad k4 = some r → wAt p l e (rmk 1 0 0 28) s m av below meth c D A 7 0 0 Q 64 [] [(0, .ref to), (1, .int x1), (2, .long x2), (4, .int x4)] (wX1 kI kJ to ta t_bad t_codes t_rows t_size) := by
    intro x1 x2 x4 t_bad k4 hk4 hrun H locs ls hP hD hS hl
    unfold fX1_findBad_J64 at hrun
    refine lv_iinc (v := x4 + (-1)) (lv' := [(4, .int (x4 + (-1))), (0, .ref to), (1, .int x1), (2, .long x2)]) hx hb dX1_findBad_64 hl (k := 3) rfl rfl (by decide) rfl (fun ls hl => ?_)
    refine lv_goto (tgt := 4) hx hb dX1_findBad_67 (by decide) ?_
    exact hk4 (x4 + (-1)) t_bad  hrun _ _ _ hP hD hS (lv_sub hl [1, 2, 3, 0] rfl)
  have c_J63 : ∀ (x1 : Int32) (x2 : Int64) (x4 : Int32) (s0 : Int64) (s1 : Int32) (t_bad : (Nat → Int64)) (k4 : Int32 → (Nat → Int64) → Option (Nat → Int64)) (hk4 : (∀ (x4 : Int32) (t_bad : (Nat → Int64)), k4 x4 t_bad = some r → wAt p l e (rmk 1 0 0 28) s m av below meth c D A 7 0 0 Q 4 [] [(0, .ref to), (1, .int x1), (2, .long x2), (4, .int x4)] (wX1 kI kJ to ta t_bad t_codes t_rows t_size))), fX1_findBad_J63 x1 x2 x4 s0 s1 t_bad k4 = some r → wAt p l e (rmk 1 0 0 28) s m av below meth c D A 7 0 0 Q 63 [.long s0, .int s1, .ref (ta 0)] [(0, .ref to), (1, .int x1), (2, .long x2), (4, .int x4)] (wX1 kI kJ to ta t_bad t_codes t_rows t_size) := by
    intro x1 x2 x4 s0 s1 t_bad k4 hk4 hrun H locs ls hP hD hS hl
    unfold fX1_findBad_J63 at hrun
    obtain ⟨hin, hrun⟩ := gd_some hrun
    refine va_last hx hb hK hP hD hS 1 1 rfl rfl hin dX1_findBad_63 (fun H locs hP hD hS => ?_)
    have hP : va_P D vwCl (wX1 kI kJ to ta (vp_updL t_bad s1.toNatClampNeg s0) t_codes t_rows t_size) H := hP
    have hD : va_D A (wX1 kI kJ to ta (vp_updL t_bad s1.toNatClampNeg s0) t_codes t_rows t_size) := hD
    exact c_J64 x1 x2 x4 (vp_updL t_bad s1.toNatClampNeg s0) k4 hk4  hrun _ _ _ hP hD hS (lv_sub hl [0, 1, 2, 3] rfl)
  have c_L4 : ∀ (x1 : Int32) (x2 : Int64) (n : Nat) (x4 : Int32) (t_bad : (Nat → Int64)), fX1_findBad_L4 x1 x2 n x4 t_bad = some r → wAt p l e (rmk 1 0 0 28) s m av below meth c D A 7 0 0 Q 4 [] [(0, .ref to), (1, .int x1), (2, .long x2), (4, .int x4)] (wX1 kI kJ to ta t_bad t_codes t_rows t_size) := by
    intro x1 x2 n
    induction n with
    | zero =>
      intro x4 t_bad hrun
      rw [fX1_findBad_L4] at hrun
      cases hrun
    | succ n ih =>
      intro x4 t_bad hrun H locs ls hP hD hS hl
      rw [fX1_findBad_L4] at hrun
      refine lv_iload hx hb dX1_findBad_4 (lv_at hl 3 rfl) ?_
      refine lv_if_lt (tgt := 70) hx hb dX1_findBad_6 (by decide) (fun hc => ?_) (fun hc => ?_)
      · have hrun := it_t hc hrun
        obtain rfl := Option.some.inj hrun
        exact hret _ _ _ _ dX1_findBad_70 hP hD hS
      · have hrun := it_f hc hrun
        refine lv_iload hx hb dX1_findBad_9 (lv_at hl 3 rfl) ?_
        refine lv_iload_n hx hb dX1_findBad_11 rfl (lv_at hl 1 rfl) ?_
        refine lv_iconst (v := (-1)) hx hb dX1_findBad_12 (by decide) ?_
        refine lv_ixor hx hb dX1_findBad_13 ?_
        refine lv_iand hx hb dX1_findBad_14 ?_
        refine lv_if_ne (tgt := 64) hx hb dX1_findBad_15 (by decide) (fun hc => ?_) (fun hc => ?_)
        · have hrun := it_f hc hrun
          exact c_J64 x1 x2 x4 t_bad (fX1_findBad_L4 x1 x2 n) ih  hrun _ _ _ hP hD hS (lv_sub hl [0, 1, 2, 3] rfl)
        · have hrun := it_t hc hrun
          refine lv_iload_n hx hb dX1_findBad_18 rfl (lv_at hl 1 rfl) ?_
          refine lv_iload hx hb dX1_findBad_19 (lv_at hl 3 rfl) ?_
          refine lv_iconst (v := (-1)) hx hb dX1_findBad_21 (by decide) ?_
          refine lv_ixor hx hb dX1_findBad_22 ?_
          refine lv_iand hx hb dX1_findBad_23 ?_
          refine lv_istore (lv' := [(5, .int (x1 &&& (x4 ^^^ ((-1))))), (0, .ref to), (1, .int x1), (2, .long x2), (4, .int x4)]) hx hb dX1_findBad_24 hl (by decide) rfl (fun ls hl => ?_)
          refine lv_iload hx hb dX1_findBad_26 (lv_at hl 0 rfl) ?_
          refine lv_iload hx hb dX1_findBad_28 (lv_at hl 0 rfl) ?_
          refine lv_ineg hx hb dX1_findBad_30 ?_
          refine lv_iand hx hb dX1_findBad_31 ?_
          refine lv_istore (lv' := [(6, .int ((x1 &&& (x4 ^^^ ((-1)))) &&& (-(x1 &&& (x4 ^^^ ((-1))))))), (5, .int (x1 &&& (x4 ^^^ ((-1))))), (0, .ref to), (1, .int x1), (2, .long x2), (4, .int x4)]) hx hb dX1_findBad_32 hl (by decide) rfl (fun ls hl => ?_)
          refine lv_aload_n hx hb dX1_findBad_34 rfl (lv_at hl 2 rfl) ?_
          refine va_get (D := D) (ci := 1) (v := .ref (ta 0)) (C := RX1) (T := TX1) (N := 4) hx hb hts iX1_findBad_X1 hown hK hP 0 rfl rfl 0 (by decide) (hts _ mX1_findBad_1) (fun _ h9 => h9) rfl dX1_findBad_35 ?_
          refine lv_iload hx hb dX1_findBad_38 (lv_at hl 5 rfl) ?_
          refine lv_iload hx hb dX1_findBad_40 (lv_at hl 1 rfl) ?_
          refine lv_if_ne (tgt := 49) hx hb dX1_findBad_42 (by decide) (fun hc => ?_) (fun hc => ?_)
          · have hrun := it_f hc hrun
            refine lv_aload_n hx hb dX1_findBad_49 rfl (lv_at hl 2 rfl) ?_
            refine lv_iload hx hb dX1_findBad_50 (lv_at hl 5 rfl) ?_
            refine lv_iload hx hb dX1_findBad_52 (lv_at hl 0 rfl) ?_
            refine lv_ior hx hb dX1_findBad_54 ?_
            obtain ⟨q_1, hq_1, hrun⟩ := bd_some hrun
            refine cL_callV (As := [.int (x4 ||| ((x1 &&& (x4 ^^^ ((-1)))) &&& (-(x1 &&& (x4 ^^^ ((-1)))))))]) (rest := [.int x4, .ref (ta 0)]) (wr := []) (wN := (wX1 kI kJ to ta t_bad t_codes t_rows t_size)) (ci := 1) (q0 := 0) hE (c_X1_badWith l D kI kJ kS to ta (x4 ||| ((x1 &&& (x4 ^^^ ((-1)))) &&& (-(x1 &&& (x4 ^^^ ((-1))))))) t_bad t_codes t_rows t_size hq_1) (cwV 1 hts gX1_findBad_X1_badWith rfl rfl rfl (by decide +kernel) ⟨Nat.le_of_ble_eq_true rfl, Nat.le_of_ble_eq_true rfl⟩) hP hD hS [0, 1, 2, 3] [] [0, 1, 2, 3] rfl rfl rfl rfl (by decide) rfl rfl rfl rfl rfl hl.1 rfl (Nat.le_of_ble_eq_true rfl) dX1_findBad_55 ⟨Nat.le_of_ble_eq_true rfl, Nat.le_of_ble_eq_true rfl⟩ (fun H locs hP hD hS => ?_)
            refine lv_iload hx hb dX1_findBad_58 (lv_at hl 0 rfl) ?_
            obtain ⟨q_2, hq_2, hrun⟩ := bd_some hrun
            refine cL_callS (As := [.long q_1, .int ((x1 &&& (x4 ^^^ ((-1)))) &&& (-(x1 &&& (x4 ^^^ ((-1))))))]) (rest := [.int x4, .ref (ta 0)]) (wr := (wX1 kI kJ to ta t_bad t_codes t_rows t_size)) (wN := (wX1 kI kJ to ta t_bad t_codes t_rows t_size)) hE (c_X2_alikeTo l D kI kJ kS q_1 ((x1 &&& (x4 ^^^ ((-1)))) &&& (-(x1 &&& (x4 ^^^ ((-1))))))  hq_2) (va_cwS 2 hts gX1_findBad_X2_alikeTo rfl rfl rfl (by decide +kernel) ⟨Nat.le_of_ble_eq_true rfl, Nat.le_of_ble_eq_true rfl⟩) hP hD hS [] [0, 1, 2, 3] [0, 1, 2, 3] rfl rfl rfl rfl (by decide) rfl rfl rfl hl.1 rfl (Nat.le_of_ble_eq_true rfl) dX1_findBad_60 ⟨Nat.le_of_ble_eq_true rfl, Nat.le_of_ble_eq_true rfl⟩ (fun H locs hP hD hS => ?_)
            exact c_J63 x1 x2 x4 q_2 x4 t_bad (fX1_findBad_L4 x1 x2 n) ih  hrun _ _ _ hP hD hS (lv_sub hl [2, 3, 4, 5] rfl)
          · have hrun := it_t hc hrun
            refine lv_lload_n hx hb dX1_findBad_45 rfl (lv_at hl 4 rfl) ?_
            refine lv_goto (tgt := 63) hx hb dX1_findBad_46 (by decide) ?_
            exact c_J63 x1 x2 x4 x2 x4 t_bad (fX1_findBad_L4 x1 x2 n) ih  hrun _ _ _ hP hD hS (lv_sub hl [2, 3, 4, 5] rfl)
  unfold fX1_findBad at hrun
  refine lv_bipush (v := 63) hx hb dX1_findBad_0 (by decide) ?_
  refine lv_istore (lv' := [(4, .int 63), (0, .ref to), (1, .int x1), (2, .long x2)]) hx hb dX1_findBad_2 hl (by decide) rfl (fun ls hl => ?_)
  exact c_L4 x1 x2 5000 63 t_bad  hrun _ _ _ hP hD hS (lv_sub hl [1, 2, 3, 0] rfl)
set_option maxHeartbeats 4000000 in
set_option maxRecDepth 100000 in
theorem c_X2_inputSet (l : Launch) (D : va_G) (kI kJ kS : ClassId) (x0 : Int32) {r : Int32} (hrun : fX2_inputSet x0 = some r) : cI l D (tyL kI kJ kS) true yX2_inputSet wsX2_inputSet (rmk 0 0 0 0) [.int x0] [] [] r := by
  refine cI_of (cc := cX2_inputSet) (maxL := 1) (by decide) rfl (Nat.le_of_ble_eq_true rfl) ?_
  intro p e s m av below meth c A Q ls hE hP hD hS hl hret
  have hE : ent_ p s m av meth c RX2 cX2_inputSet 1 (some .int) wsX2_inputSet (tyL kI kJ kS) D A true := hE
  obtain ⟨hx, hb, hml, hown, hts, hr, hlocks, hK, hA, hst⟩ := id hE
  have hl : lv_has ls 1 [(0, .int x0)] := hl
  obtain ⟨⟨⟨tW, hZ, hT⟩, hU1, hU2⟩, hnk⟩ := hst rfl
  unfold fX2_inputSet at hrun
  refine lv_iconst (v := 1) hx hb dX2_inputSet_0 (by decide) ?_
  refine lv_iload_n hx hb dX2_inputSet_1 rfl (lv_at hl 0 rfl) ?_
  refine lv_ishl hx hb dX2_inputSet_2 ?_
  refine lv_iconst (v := 1) hx hb dX2_inputSet_3 (by decide) ?_
  refine lv_isub hx hb dX2_inputSet_4 ?_
  obtain rfl := Option.some.inj hrun
  exact hret _ _ _ _ rfl dX2_inputSet_5 hP hD hS
set_option maxHeartbeats 4000000 in
set_option maxRecDepth 100000 in
theorem c_X2_inProduct (l : Launch) (D : va_G) (kI kJ kS : ClassId) (x0 : Int32) (x1 : Int32) (x2 : Int32) {r : Int64} (hrun : fX2_inProduct x0 x1 x2 = some r) : cL l D (tyL kI kJ kS) true yX2_inProduct wsX2_inProduct (rmk 1 0 0 28) [.int x0, .int x1, .int x2] [] [] r := by
  refine cL_of (cc := cX2_inProduct) (maxL := 3) (by decide) rfl (Nat.le_of_ble_eq_true rfl) ?_
  intro p e s m av below meth c A Q ls hE hP hD hS hl hret
  have hE : ent_ p s m av meth c RX2 cX2_inProduct 3 (some .long) wsX2_inProduct (tyL kI kJ kS) D A true := hE
  obtain ⟨hx, hb, hml, hown, hts, hr, hlocks, hK, hA, hst⟩ := id hE
  have hl : lv_has ls 3 [(0, .int x0), (1, .int x1), (2, .int x2)] := hl
  obtain ⟨⟨⟨tW, hZ, hT⟩, hU1, hU2⟩, hnk⟩ := hst rfl
  unfold fX2_inProduct at hrun
  refine lv_lconst (v := 1) hx hb dX2_inProduct_0 (by decide) ?_
  refine lv_iload_n hx hb dX2_inProduct_1 rfl (lv_at hl 2 rfl) ?_
  refine lv_lshl hx hb dX2_inProduct_2 rfl ?_
  refine lv_iload_n hx hb dX2_inProduct_3 rfl (lv_at hl 0 rfl) ?_
  obtain ⟨q_1, hq_1, hrun⟩ := bd_some hrun
  refine cI_callS (As := [.int x0]) (rest := [.long (lsl_ 1 x2)]) (wr := []) (wN := []) hE (c_X2_inputSet l D kI kJ kS x0  hq_1) (va_cwS 1 hts gX2_inProduct_X2_inputSet rfl rfl rfl (by decide +kernel) ⟨Nat.le_of_ble_eq_true rfl, Nat.le_of_ble_eq_true rfl⟩) hP hD hS [] [] [] rfl rfl rfl rfl (by decide) rfl rfl rfl hl.1 rfl (Nat.le_of_ble_eq_true rfl) dX2_inProduct_4 ⟨Nat.le_of_ble_eq_true rfl, Nat.le_of_ble_eq_true rfl⟩ (fun H locs hP hD hS => ?_)
  refine lv_iload_n hx hb dX2_inProduct_7 rfl (lv_at hl 1 rfl) ?_
  refine lv_iconst (v := (-1)) hx hb dX2_inProduct_8 (by decide) ?_
  refine lv_ixor hx hb dX2_inProduct_9 ?_
  refine lv_iand hx hb dX2_inProduct_10 ?_
  obtain ⟨q_2, hq_2, hrun⟩ := bd_some hrun
  refine cL_callS (As := [.long (lsl_ 1 x2), .int (q_1 &&& (x1 ^^^ ((-1))))]) (rest := []) (wr := []) (wN := []) hE (c_X2_alikeTo l D kI kJ kS (lsl_ 1 x2) (q_1 &&& (x1 ^^^ ((-1))))  hq_2) (va_cwS 2 hts gX2_inProduct_X2_alikeTo rfl rfl rfl (by decide +kernel) ⟨Nat.le_of_ble_eq_true rfl, Nat.le_of_ble_eq_true rfl⟩) hP hD hS [] [] [] rfl rfl rfl rfl (by decide) rfl rfl rfl hl.1 rfl (Nat.le_of_ble_eq_true rfl) dX2_inProduct_11 ⟨Nat.le_of_ble_eq_true rfl, Nat.le_of_ble_eq_true rfl⟩ (fun H locs hP hD hS => ?_)
  obtain rfl := Option.some.inj hrun
  exact hret _ _ _ _ dX2_inProduct_14 hP hD hS
theorem mX1_addWith_2 : Cond.fieldLink RX1 22 "GateMaze$Primes" "size" "I" ∈ wsX1_addWith := List.mem_of_getElem? (i := 2) rfl
theorem mX1_addWith_3 : Cond.fieldLink RX1 15 "GateMaze$Primes" "codes" "[I" ∈ wsX1_addWith := List.mem_of_getElem? (i := 3) rfl
theorem mX1_addWith_4 : Cond.fieldLink RX1 19 "GateMaze$Primes" "rows" "[J" ∈ wsX1_addWith := List.mem_of_getElem? (i := 4) rfl
theorem mX1_addWith_1 : Cond.constantLong RX1 44 (-1) ∈ wsX1_addWith := List.mem_of_getElem? (i := 1) rfl
theorem iX1_addWith_X1 : ∀ w ∈ u_ws RX1 TX1 4, w ∈ wsX1_addWith := fun w h => List.mem_cons_of_mem _ (List.mem_append_right _ h)
set_option maxHeartbeats 4000000 in
set_option maxRecDepth 100000 in
theorem c_X1_addWith (l : Launch) (D : va_G) (kI kJ kS : ClassId) (to : Nat) (ta : Nat → Nat) (x1 : Int32) (x2 : Int32) (t_bad : (Nat → Int64)) (t_codes : (Nat → Int32)) (t_rows : (Nat → Int64)) (t_size : Int32) {r : (Nat → Int32) × (Nat → Int64) × Int32} (hrun : fX1_addWith t_bad t_codes t_rows t_size x1 x2 = some r) : cV l D (tyL kI kJ kS) true yX1_addWith wsX1_addWith (rmk 2 0 0 50) [.ref to, .int x1, .int x2] (wX1 kI kJ to ta t_bad t_codes t_rows t_size) (wX1 kI kJ to ta t_bad r.1 r.2.1 r.2.2) := by
  refine cV_of (cc := cX1_addWith) (maxL := 7) (by decide) rfl (Nat.le_of_ble_eq_true rfl) ?_
  intro p e s m av below meth c A Q ls hE hP hD hS hl hret
  have hE : ent_ p s m av meth c RX1 cX1_addWith 7 none wsX1_addWith (tyL kI kJ kS) D A true := hE
  obtain ⟨hx, hb, hml, hown, hts, hr, hlocks, hK, hA, hst⟩ := id hE
  have hl : lv_has ls 7 [(0, .ref to), (1, .int x1), (2, .int x2)] := hl
  obtain ⟨⟨⟨tW, hZ, hT⟩, hU1, hU2⟩, hnk⟩ := hst rfl
  have c_J44 : ∀ (x1 : Int32) (x2 : Int32) (x3 : Int64) (x5 : Int32) (t_codes : (Nat → Int32)) (t_rows : (Nat → Int64)) (t_size : Int32) (k13 : Int64 → Int32 → Option ((Nat → Int32) × (Nat → Int64) × Int32)) (hk13 : (∀ (x3 : Int64) (x5 : Int32), k13 x3 x5 = some r → wAt p l e (rmk 2 0 0 50) s m av below meth c D A 7 0 0 Q 13 [] [(0, .ref to), (1, .int x1), (2, .int x2), (3, .long x3), (5, .int x5)] (wX1 kI kJ to ta t_bad t_codes t_rows t_size))), fX1_addWith_J44 x1 x2 x3 x5 t_bad t_codes t_rows t_size k13 = some r → wAt p l e (rmk 2 0 0 50) s m av below meth c D A 7 0 0 Q 44 [] [(0, .ref to), (1, .int x1), (2, .int x2), (3, .long x3), (5, .int x5)] (wX1 kI kJ to ta t_bad t_codes t_rows t_size) := by
    intro x1 x2 x3 x5 t_codes t_rows t_size k13 hk13 hrun H locs ls hP hD hS hl
    unfold fX1_addWith_J44 at hrun
    refine lv_iinc (v := x5 + 1) (lv' := [(5, .int (x5 + 1)), (0, .ref to), (1, .int x1), (2, .int x2), (3, .long x3)]) hx hb dX1_addWith_44 hl (k := 4) rfl rfl (by decide) rfl (fun ls hl => ?_)
    refine lv_goto (tgt := 13) hx hb dX1_addWith_47 (by decide) ?_
    exact hk13 x3 (x5 + 1)  hrun _ _ _ hP hD hS (lv_sub hl [1, 2, 3, 4, 0] rfl)
  have c_J137 : ∀ (x1 : Int32) (x2 : Int32) (x3 : Int64) (x5 : Int32) (t_codes : (Nat → Int32)) (t_rows : (Nat → Int64)) (t_size : Int32) (k53 : Int32 → (Nat → Int32) → (Nat → Int64) → Int32 → Option ((Nat → Int32) × (Nat → Int64) × Int32)) (hk53 : (∀ (x5 : Int32) (t_codes : (Nat → Int32)) (t_rows : (Nat → Int64)) (t_size : Int32), k53 x5 t_codes t_rows t_size = some r → wAt p l e (rmk 2 0 0 50) s m av below meth c D A 7 0 0 Q 53 [] [(0, .ref to), (1, .int x1), (2, .int x2), (3, .long x3), (5, .int x5)] (wX1 kI kJ to ta t_bad t_codes t_rows t_size))), fX1_addWith_J137 x1 x2 x3 x5 t_codes t_rows t_size k53 = some r → wAt p l e (rmk 2 0 0 50) s m av below meth c D A 7 0 0 Q 137 [] [(0, .ref to), (1, .int x1), (2, .int x2), (3, .long x3), (5, .int x5)] (wX1 kI kJ to ta t_bad t_codes t_rows t_size) := by
    intro x1 x2 x3 x5 t_codes t_rows t_size k53 hk53 hrun H locs ls hP hD hS hl
    unfold fX1_addWith_J137 at hrun
    refine lv_iinc (v := x5 + 1) (lv' := [(5, .int (x5 + 1)), (0, .ref to), (1, .int x1), (2, .int x2), (3, .long x3)]) hx hb dX1_addWith_137 hl (k := 4) rfl rfl (by decide) rfl (fun ls hl => ?_)
    refine lv_goto (tgt := 53) hx hb dX1_addWith_140 (by decide) ?_
    exact hk53 (x5 + 1) t_codes t_rows t_size  hrun _ _ _ hP hD hS (lv_sub hl [1, 2, 3, 4, 0] rfl)
  have c_L53 : ∀ (x1 : Int32) (x2 : Int32) (x3 : Int64) (n : Nat) (x5 : Int32) (t_codes : (Nat → Int32)) (t_rows : (Nat → Int64)) (t_size : Int32), fX1_addWith_L53 x1 x2 x3 n x5 t_codes t_rows t_size = some r → wAt p l e (rmk 2 0 0 50) s m av below meth c D A 7 0 0 Q 53 [] [(0, .ref to), (1, .int x1), (2, .int x2), (3, .long x3), (5, .int x5)] (wX1 kI kJ to ta t_bad t_codes t_rows t_size) := by
    intro x1 x2 x3 n
    induction n with
    | zero =>
      intro x5 t_codes t_rows t_size hrun
      rw [fX1_addWith_L53] at hrun
      cases hrun
    | succ n ih =>
      intro x5 t_codes t_rows t_size hrun H locs ls hP hD hS hl
      rw [fX1_addWith_L53] at hrun
      refine lv_iload hx hb dX1_addWith_53 (lv_at hl 4 rfl) ?_
      refine lv_iload_n hx hb dX1_addWith_55 rfl (lv_at hl 2 rfl) ?_
      refine lv_icmp_gt (tgt := 143) hx hb dX1_addWith_56 (by decide) (fun hc => ?_) (fun hc => ?_)
      · have hrun := it_t hc hrun
        obtain rfl := Option.some.inj hrun
        exact hret _ _ _ _ dX1_addWith_143 hP hD hS
      · have hrun := it_f hc hrun
        refine lv_lload_n hx hb dX1_addWith_59 rfl (lv_at hl 3 rfl) ?_
        refine lv_lconst (v := 0) hx hb dX1_addWith_60 (by decide) ?_
        refine W.lcmp hx hb dX1_addWith_61 ?_
        refine lv_if_eq (tgt := 143) hx hb dX1_addWith_62 (by decide) (fun hc => ?_) (fun hc => ?_)
        · have hrun := it_t hc hrun
          obtain rfl := Option.some.inj hrun
          exact hret _ _ _ _ dX1_addWith_143 hP hD hS
        · have hrun := it_f hc hrun
          refine lv_iload hx hb dX1_addWith_65 (lv_at hl 4 rfl) ?_
          refine lv_iload_n hx hb dX1_addWith_67 rfl (lv_at hl 2 rfl) ?_
          refine lv_iconst (v := (-1)) hx hb dX1_addWith_68 (by decide) ?_
          refine lv_ixor hx hb dX1_addWith_69 ?_
          refine lv_iand hx hb dX1_addWith_70 ?_
          refine lv_if_ne (tgt := 137) hx hb dX1_addWith_71 (by decide) (fun hc => ?_) (fun hc => ?_)
          · have hrun := it_f hc hrun
            exact c_J137 x1 x2 x3 x5 t_codes t_rows t_size (fX1_addWith_L53 x1 x2 x3 n) ih  hrun _ _ _ hP hD hS (lv_sub hl [0, 1, 2, 3, 4] rfl)
          · have hrun := it_t hc hrun
            refine lv_lload_n hx hb dX1_addWith_74 rfl (lv_at hl 3 rfl) ?_
            refine lv_iload hx hb dX1_addWith_75 (lv_at hl 4 rfl) ?_
            refine lv_lushr hx hb dX1_addWith_77 rfl ?_
            refine lv_lconst (v := 1) hx hb dX1_addWith_78 (by decide) ?_
            refine lv_land hx hb dX1_addWith_79 ?_
            refine lv_lconst (v := 0) hx hb dX1_addWith_80 (by decide) ?_
            refine W.lcmp hx hb dX1_addWith_81 ?_
            refine lv_if_eq (tgt := 137) hx hb dX1_addWith_82 (by decide) (fun hc => ?_) (fun hc => ?_)
            · have hrun := it_t hc hrun
              exact c_J137 x1 x2 x3 x5 t_codes t_rows t_size (fX1_addWith_L53 x1 x2 x3 n) ih  hrun _ _ _ hP hD hS (lv_sub hl [0, 1, 2, 3, 4] rfl)
            · have hrun := it_f hc hrun
              refine lv_aload_n hx hb dX1_addWith_85 rfl (lv_at hl 0 rfl) ?_
              refine va_get (D := D) (ci := 1) (v := .int t_size) (C := RX1) (T := TX1) (N := 4) hx hb hts iX1_addWith_X1 hown hK hP 0 rfl rfl 3 (by decide) (hts _ mX1_addWith_2) (fun _ h9 => h9) rfl dX1_addWith_86 ?_
              refine lv_sipush (v := 729) hx hb dX1_addWith_89 (by decide) ?_
              refine lv_icmp_ge (tgt := 137) hx hb dX1_addWith_92 (by decide) (fun hc => ?_) (fun hc => ?_)
              · have hrun := it_t hc hrun
                exact c_J137 x1 x2 x3 x5 t_codes t_rows t_size (fX1_addWith_L53 x1 x2 x3 n) ih  hrun _ _ _ hP hD hS (lv_sub hl [0, 1, 2, 3, 4] rfl)
              · have hrun := it_f hc hrun
                refine lv_aload_n hx hb dX1_addWith_95 rfl (lv_at hl 0 rfl) ?_
                refine va_get (D := D) (ci := 1) (v := .ref (ta 1)) (C := RX1) (T := TX1) (N := 4) hx hb hts iX1_addWith_X1 hown hK hP 0 rfl rfl 1 (by decide) (hts _ mX1_addWith_3) (fun _ h9 => h9) rfl dX1_addWith_96 ?_
                refine lv_aload_n hx hb dX1_addWith_99 rfl (lv_at hl 0 rfl) ?_
                refine va_get (D := D) (ci := 1) (v := .int t_size) (C := RX1) (T := TX1) (N := 4) hx hb hts iX1_addWith_X1 hown hK hP 0 rfl rfl 3 (by decide) (hts _ mX1_addWith_2) (fun _ h9 => h9) rfl dX1_addWith_100 ?_
                refine lv_iload_n hx hb dX1_addWith_103 rfl (lv_at hl 2 rfl) ?_
                refine lv_bipush (v := 64) hx hb dX1_addWith_104 (by decide) ?_
                refine lv_imul hx hb dX1_addWith_106 ?_
                refine lv_iload hx hb dX1_addWith_107 (lv_at hl 4 rfl) ?_
                refine lv_iadd hx hb dX1_addWith_109 ?_
                obtain ⟨hin, hrun⟩ := gd_some hrun
                refine va_iast hx hb hK hP hD hS 2 0 rfl rfl hin dX1_addWith_110 (fun H locs hP hD hS => ?_)
                have hP : va_P D vwCl (wX1 kI kJ to ta t_bad (upd t_codes t_size.toNatClampNeg ((x2 * 64) + x5)) t_rows t_size) H := hP
                have hD : va_D A (wX1 kI kJ to ta t_bad (upd t_codes t_size.toNatClampNeg ((x2 * 64) + x5)) t_rows t_size) := hD
                refine lv_aload_n hx hb dX1_addWith_111 rfl (lv_at hl 0 rfl) ?_
                refine va_get (D := D) (ci := 1) (v := .ref (ta 2)) (C := RX1) (T := TX1) (N := 4) hx hb hts iX1_addWith_X1 hown hK hP 0 rfl rfl 2 (by decide) (hts _ mX1_addWith_4) (fun _ h9 => h9) rfl dX1_addWith_112 ?_
                refine lv_aload_n hx hb dX1_addWith_115 rfl (lv_at hl 0 rfl) ?_
                refine va_get (D := D) (ci := 1) (v := .int t_size) (C := RX1) (T := TX1) (N := 4) hx hb hts iX1_addWith_X1 hown hK hP 0 rfl rfl 3 (by decide) (hts _ mX1_addWith_2) (fun _ h9 => h9) rfl dX1_addWith_116 ?_
                refine lv_iload_n hx hb dX1_addWith_119 rfl (lv_at hl 1 rfl) ?_
                refine lv_iload_n hx hb dX1_addWith_120 rfl (lv_at hl 2 rfl) ?_
                refine lv_iload hx hb dX1_addWith_121 (lv_at hl 4 rfl) ?_
                obtain ⟨q_1, hq_1, hrun⟩ := bd_some hrun
                refine cL_callS (As := [.int x1, .int x2, .int x5]) (rest := [.int t_size, .ref (ta 2)]) (wr := (wX1 kI kJ to ta t_bad (upd t_codes t_size.toNatClampNeg ((x2 * 64) + x5)) t_rows t_size)) (wN := (wX1 kI kJ to ta t_bad (upd t_codes t_size.toNatClampNeg ((x2 * 64) + x5)) t_rows t_size)) hE (c_X2_inProduct l D kI kJ kS x1 x2 x5  hq_1) (va_cwS 3 hts gX1_addWith_X2_inProduct rfl rfl rfl (by decide +kernel) ⟨Nat.le_of_ble_eq_true rfl, Nat.le_of_ble_eq_true rfl⟩) hP hD hS [] [0, 1, 2, 3] [0, 1, 2, 3] rfl rfl rfl rfl (by decide) rfl rfl rfl hl.1 rfl (Nat.le_of_ble_eq_true rfl) dX1_addWith_123 ⟨Nat.le_of_ble_eq_true rfl, Nat.le_of_ble_eq_true rfl⟩ (fun H locs hP hD hS => ?_)
                obtain ⟨hin, hrun⟩ := gd_some hrun
                refine va_last hx hb hK hP hD hS 3 1 rfl rfl hin dX1_addWith_126 (fun H locs hP hD hS => ?_)
                have hP : va_P D vwCl (wX1 kI kJ to ta t_bad (upd t_codes t_size.toNatClampNeg ((x2 * 64) + x5)) (vp_updL t_rows t_size.toNatClampNeg q_1) t_size) H := hP
                have hD : va_D A (wX1 kI kJ to ta t_bad (upd t_codes t_size.toNatClampNeg ((x2 * 64) + x5)) (vp_updL t_rows t_size.toNatClampNeg q_1) t_size) := hD
                refine lv_aload_n hx hb dX1_addWith_127 rfl (lv_at hl 0 rfl) ?_
                refine lv_dup hx hb dX1_addWith_128 rfl ?_
                refine va_get (D := D) (ci := 1) (v := .int t_size) (C := RX1) (T := TX1) (N := 4) hx hb hts iX1_addWith_X1 hown hK hP 0 rfl rfl 3 (by decide) (hts _ mX1_addWith_2) (fun _ h9 => h9) rfl dX1_addWith_129 ?_
                refine lv_iconst (v := 1) hx hb dX1_addWith_132 (by decide) ?_
                refine lv_iadd hx hb dX1_addWith_133 ?_
                refine va_put (D := D) (ci := 1) (v := .int (t_size + 1)) (ty := .int) (C := RX1) (T := TX1) (N := 4) hx hb hts iX1_addWith_X1 tyX1 tyX1_ok nmX1 hown hK hP hD hS 0 rfl rfl 3 (by decide) (hts _ mX1_addWith_2) (fun _ h9 => h9) rfl (by decide +kernel) rfl rfl (Nat.le_of_ble_eq_true rfl) dX1_addWith_134 (fun H locs hP hD hS => ?_)
                have hP : va_P D vwCl (wX1 kI kJ to ta t_bad (upd t_codes t_size.toNatClampNeg ((x2 * 64) + x5)) (vp_updL t_rows t_size.toNatClampNeg q_1) (t_size + 1)) H := hP
                have hD : va_D A (wX1 kI kJ to ta t_bad (upd t_codes t_size.toNatClampNeg ((x2 * 64) + x5)) (vp_updL t_rows t_size.toNatClampNeg q_1) (t_size + 1)) := hD
                exact c_J137 x1 x2 x3 x5 (upd t_codes t_size.toNatClampNeg ((x2 * 64) + x5)) (vp_updL t_rows t_size.toNatClampNeg q_1) (t_size + 1) (fX1_addWith_L53 x1 x2 x3 n) ih  hrun _ _ _ hP hD hS (lv_sub hl [0, 1, 2, 3, 4] rfl)
  have c_J50 : ∀ (x1 : Int32) (x2 : Int32) (x3 : Int64) (t_codes : (Nat → Int32)) (t_rows : (Nat → Int64)) (t_size : Int32), fX1_addWith_J50 x1 x2 x3 t_codes t_rows t_size = some r → wAt p l e (rmk 2 0 0 50) s m av below meth c D A 7 0 0 Q 50 [] [(0, .ref to), (1, .int x1), (2, .int x2), (3, .long x3)] (wX1 kI kJ to ta t_bad t_codes t_rows t_size) := by
    intro x1 x2 x3 t_codes t_rows t_size hrun H locs ls hP hD hS hl
    unfold fX1_addWith_J50 at hrun
    refine lv_iconst (v := 0) hx hb dX1_addWith_50 (by decide) ?_
    refine lv_istore (lv' := [(5, .int 0), (0, .ref to), (1, .int x1), (2, .int x2), (3, .long x3)]) hx hb dX1_addWith_51 hl (by decide) rfl (fun ls hl => ?_)
    exact c_L53 x1 x2 x3 5000 0 t_codes t_rows t_size  hrun _ _ _ hP hD hS (lv_sub hl [1, 2, 3, 4, 0] rfl)
  have c_L13 : ∀ (x1 : Int32) (x2 : Int32) (t_codes : (Nat → Int32)) (t_rows : (Nat → Int64)) (t_size : Int32) (n : Nat) (x3 : Int64) (x5 : Int32), fX1_addWith_L13 x1 x2 t_bad t_codes t_rows t_size n x3 x5 = some r → wAt p l e (rmk 2 0 0 50) s m av below meth c D A 7 0 0 Q 13 [] [(0, .ref to), (1, .int x1), (2, .int x2), (3, .long x3), (5, .int x5)] (wX1 kI kJ to ta t_bad t_codes t_rows t_size) := by
    intro x1 x2 t_codes t_rows t_size n
    induction n with
    | zero =>
      intro x3 x5 hrun
      rw [fX1_addWith_L13] at hrun
      cases hrun
    | succ n ih =>
      intro x3 x5 hrun H locs ls hP hD hS hl
      rw [fX1_addWith_L13] at hrun
      refine lv_iload hx hb dX1_addWith_13 (lv_at hl 4 rfl) ?_
      refine lv_iload_n hx hb dX1_addWith_15 rfl (lv_at hl 1 rfl) ?_
      refine lv_icmp_ge (tgt := 50) hx hb dX1_addWith_16 (by decide) (fun hc => ?_) (fun hc => ?_)
      · have hrun := it_t hc hrun
        exact c_J50 x1 x2 x3 t_codes t_rows t_size  hrun _ _ _ hP hD hS (lv_sub hl [0, 1, 2, 3] rfl)
      · have hrun := it_f hc hrun
        refine lv_iload_n hx hb dX1_addWith_19 rfl (lv_at hl 2 rfl) ?_
        refine lv_iconst (v := 1) hx hb dX1_addWith_20 (by decide) ?_
        refine lv_iload hx hb dX1_addWith_21 (lv_at hl 4 rfl) ?_
        refine lv_ishl hx hb dX1_addWith_23 ?_
        refine lv_iconst (v := (-1)) hx hb dX1_addWith_24 (by decide) ?_
        refine lv_ixor hx hb dX1_addWith_25 ?_
        refine lv_iand hx hb dX1_addWith_26 ?_
        refine lv_istore (lv' := [(6, .int (x2 &&& (((1 : Int32) <<< (x5 &&& 31)) ^^^ ((-1))))), (0, .ref to), (1, .int x1), (2, .int x2), (3, .long x3), (5, .int x5)]) hx hb dX1_addWith_27 hl (by decide) rfl (fun ls hl => ?_)
        refine lv_iload hx hb dX1_addWith_29 (lv_at hl 0 rfl) ?_
        refine lv_iload_n hx hb dX1_addWith_31 rfl (lv_at hl 3 rfl) ?_
        refine lv_icmp_eq (tgt := 44) hx hb dX1_addWith_32 (by decide) (fun hc => ?_) (fun hc => ?_)
        · have hrun := it_t hc hrun
          exact c_J44 x1 x2 x3 x5 t_codes t_rows t_size (fX1_addWith_L13 x1 x2 t_bad t_codes t_rows t_size n) ih  hrun _ _ _ hP hD hS (lv_sub hl [1, 2, 3, 4, 5] rfl)
        · have hrun := it_f hc hrun
          refine lv_lload_n hx hb dX1_addWith_35 rfl (lv_at hl 4 rfl) ?_
          refine lv_aload_n hx hb dX1_addWith_36 rfl (lv_at hl 1 rfl) ?_
          refine lv_iload hx hb dX1_addWith_37 (lv_at hl 0 rfl) ?_
          obtain ⟨q_2, hq_2, hrun⟩ := bd_some hrun
          refine cL_callV (As := [.int (x2 &&& (((1 : Int32) <<< (x5 &&& 31)) ^^^ ((-1))))]) (rest := [.long x3]) (wr := []) (wN := (wX1 kI kJ to ta t_bad t_codes t_rows t_size)) (ci := 1) (q0 := 0) hE (c_X1_badWith l D kI kJ kS to ta (x2 &&& (((1 : Int32) <<< (x5 &&& 31)) ^^^ ((-1)))) t_bad t_codes t_rows t_size hq_2) (cwV 1 hts gX1_addWith_X1_badWith rfl rfl rfl (by decide +kernel) ⟨Nat.le_of_ble_eq_true rfl, Nat.le_of_ble_eq_true rfl⟩) hP hD hS [0, 1, 2, 3] [] [0, 1, 2, 3] rfl rfl rfl rfl (by decide) rfl rfl rfl rfl rfl hl.1 rfl (Nat.le_of_ble_eq_true rfl) dX1_addWith_39 ⟨Nat.le_of_ble_eq_true rfl, Nat.le_of_ble_eq_true rfl⟩ (fun H locs hP hD hS => ?_)
          refine lv_land hx hb dX1_addWith_42 ?_
          refine lv_lstore_n (lv' := [(3, .long (x3 &&& q_2)), (6, .int (x2 &&& (((1 : Int32) <<< (x5 &&& 31)) ^^^ ((-1))))), (0, .ref to), (1, .int x1), (2, .int x2), (5, .int x5)]) hx hb dX1_addWith_43 rfl hl (by decide) rfl (fun ls hl => ?_)
          exact c_J44 x1 x2 (x3 &&& q_2) x5 t_codes t_rows t_size (fX1_addWith_L13 x1 x2 t_bad t_codes t_rows t_size n) ih  hrun _ _ _ hP hD hS (lv_sub hl [2, 3, 4, 0, 5] rfl)
  unfold fX1_addWith at hrun
  refine lv_aload_n hx hb dX1_addWith_0 rfl (lv_at hl 0 rfl) ?_
  refine lv_iload_n hx hb dX1_addWith_1 rfl (lv_at hl 2 rfl) ?_
  obtain ⟨q_3, hq_3, hrun⟩ := bd_some hrun
  refine cL_callV (As := [.int x2]) (rest := []) (wr := []) (wN := (wX1 kI kJ to ta t_bad t_codes t_rows t_size)) (ci := 1) (q0 := 0) hE (c_X1_badWith l D kI kJ kS to ta x2 t_bad t_codes t_rows t_size hq_3) (cwV 1 hts gX1_addWith_X1_badWith rfl rfl rfl (by decide +kernel) ⟨Nat.le_of_ble_eq_true rfl, Nat.le_of_ble_eq_true rfl⟩) hP hD hS [0, 1, 2, 3] [] [0, 1, 2, 3] rfl rfl rfl rfl (by decide) rfl rfl rfl rfl rfl hl.1 rfl (Nat.le_of_ble_eq_true rfl) dX1_addWith_2 ⟨Nat.le_of_ble_eq_true rfl, Nat.le_of_ble_eq_true rfl⟩ (fun H locs hP hD hS => ?_)
  refine lv_ldc2 (v := (-1)) hx hb hown (hts _ mX1_addWith_1) dX1_addWith_5 ?_
  refine lv_lxor hx hb dX1_addWith_8 ?_
  refine lv_lstore_n (lv' := [(3, .long (q_3 ^^^ ((-1)))), (0, .ref to), (1, .int x1), (2, .int x2)]) hx hb dX1_addWith_9 rfl hl (by decide) rfl (fun ls hl => ?_)
  refine lv_iconst (v := 0) hx hb dX1_addWith_10 (by decide) ?_
  refine lv_istore (lv' := [(5, .int 0), (3, .long (q_3 ^^^ ((-1)))), (0, .ref to), (1, .int x1), (2, .int x2)]) hx hb dX1_addWith_11 hl (by decide) rfl (fun ls hl => ?_)
  exact c_L13 x1 x2 t_codes t_rows t_size 5000 (q_3 ^^^ ((-1))) 0  hrun _ _ _ hP hD hS (lv_sub hl [2, 3, 4, 1, 0] rfl)
theorem mX1_find_1 : Cond.fieldLink RX1 22 "GateMaze$Primes" "size" "I" ∈ wsX1_find := List.mem_of_getElem? (i := 1) rfl
theorem iX1_find_X1 : ∀ w ∈ u_ws RX1 TX1 4, w ∈ wsX1_find := fun w h => List.mem_cons_of_mem _ (List.mem_append_right _ h)
set_option maxHeartbeats 4000000 in
set_option maxRecDepth 100000 in
theorem c_X1_find (l : Launch) (D : va_G) (kI kJ kS : ClassId) (to : Nat) (ta : Nat → Nat) (x1 : Int32) (x2 : Int32) (x3 : Int64) (t_bad : (Nat → Int64)) (t_codes : (Nat → Int32)) (t_rows : (Nat → Int64)) (t_size : Int32) {r : (Nat → Int64) × (Nat → Int32) × (Nat → Int64) × Int32} (hrun : fX1_find t_bad t_codes t_rows x1 x2 x3 = some r) : cV l D (tyL kI kJ kS) true yX1_find wsX1_find (rmk 3 0 0 76) [.ref to, .int x1, .int x2, .long x3] (wX1 kI kJ to ta t_bad t_codes t_rows t_size) (wX1 kI kJ to ta r.1 r.2.1 r.2.2.1 r.2.2.2) := by
  refine cV_of (cc := cX1_find) (maxL := 6) (by decide) rfl (Nat.le_of_ble_eq_true rfl) ?_
  intro p e s m av below meth c A Q ls hE hP hD hS hl hret
  have hE : ent_ p s m av meth c RX1 cX1_find 6 none wsX1_find (tyL kI kJ kS) D A true := hE
  obtain ⟨hx, hb, hml, hown, hts, hr, hlocks, hK, hA, hst⟩ := id hE
  have hl : lv_has ls 6 [(0, .ref to), (1, .int x1), (2, .int x2), (3, .long x3)] := hl
  obtain ⟨⟨⟨tW, hZ, hT⟩, hU1, hU2⟩, hnk⟩ := hst rfl
  have c_J37 : ∀ (x1 : Int32) (x2 : Int32) (x5 : Int32) (t_bad : (Nat → Int64)) (t_codes : (Nat → Int32)) (t_rows : (Nat → Int64)) (t_size : Int32) (k14 : Int32 → (Nat → Int32) → (Nat → Int64) → Int32 → Option ((Nat → Int64) × (Nat → Int32) × (Nat → Int64) × Int32)) (hk14 : (∀ (x5 : Int32) (t_codes : (Nat → Int32)) (t_rows : (Nat → Int64)) (t_size : Int32), k14 x5 t_codes t_rows t_size = some r → wAt p l e (rmk 3 0 0 76) s m av below meth c D A 6 0 0 Q 14 [] [(0, .ref to), (1, .int x1), (2, .int x2), (5, .int x5)] (wX1 kI kJ to ta t_bad t_codes t_rows t_size))), fX1_find_J37 x1 x2 x5 t_bad t_codes t_rows t_size k14 = some r → wAt p l e (rmk 3 0 0 76) s m av below meth c D A 6 0 0 Q 37 [] [(0, .ref to), (1, .int x1), (2, .int x2), (5, .int x5)] (wX1 kI kJ to ta t_bad t_codes t_rows t_size) := by
    intro x1 x2 x5 t_bad t_codes t_rows t_size k14 hk14 hrun H locs ls hP hD hS hl
    unfold fX1_find_J37 at hrun
    refine lv_iinc (v := x5 + 1) (lv' := [(5, .int (x5 + 1)), (0, .ref to), (1, .int x1), (2, .int x2)]) hx hb dX1_find_37 hl (k := 3) rfl rfl (by decide) rfl (fun ls hl => ?_)
    refine lv_goto (tgt := 14) hx hb dX1_find_40 (by decide) ?_
    exact hk14 (x5 + 1) t_codes t_rows t_size  hrun _ _ _ hP hD hS (lv_sub hl [1, 2, 3, 0] rfl)
  have c_L14 : ∀ (x1 : Int32) (x2 : Int32) (t_bad : (Nat → Int64)) (n : Nat) (x5 : Int32) (t_codes : (Nat → Int32)) (t_rows : (Nat → Int64)) (t_size : Int32), fX1_find_L14 x1 x2 t_bad n x5 t_codes t_rows t_size = some r → wAt p l e (rmk 3 0 0 76) s m av below meth c D A 6 0 0 Q 14 [] [(0, .ref to), (1, .int x1), (2, .int x2), (5, .int x5)] (wX1 kI kJ to ta t_bad t_codes t_rows t_size) := by
    intro x1 x2 t_bad n
    induction n with
    | zero =>
      intro x5 t_codes t_rows t_size hrun
      rw [fX1_find_L14] at hrun
      cases hrun
    | succ n ih =>
      intro x5 t_codes t_rows t_size hrun H locs ls hP hD hS hl
      rw [fX1_find_L14] at hrun
      refine lv_iload hx hb dX1_find_14 (lv_at hl 3 rfl) ?_
      refine lv_bipush (v := 64) hx hb dX1_find_16 (by decide) ?_
      refine lv_icmp_ge (tgt := 43) hx hb dX1_find_18 (by decide) (fun hc => ?_) (fun hc => ?_)
      · have hrun := it_t hc hrun
        obtain rfl := Option.some.inj hrun
        exact hret _ _ _ _ dX1_find_43 hP hD hS
      · have hrun := it_f hc hrun
        refine lv_iload hx hb dX1_find_21 (lv_at hl 3 rfl) ?_
        refine lv_iload_n hx hb dX1_find_23 rfl (lv_at hl 2 rfl) ?_
        refine lv_iconst (v := (-1)) hx hb dX1_find_24 (by decide) ?_
        refine lv_ixor hx hb dX1_find_25 ?_
        refine lv_iand hx hb dX1_find_26 ?_
        refine lv_if_ne (tgt := 37) hx hb dX1_find_27 (by decide) (fun hc => ?_) (fun hc => ?_)
        · have hrun := it_f hc hrun
          exact c_J37 x1 x2 x5 t_bad t_codes t_rows t_size (fX1_find_L14 x1 x2 t_bad n) ih  hrun _ _ _ hP hD hS (lv_sub hl [0, 1, 2, 3] rfl)
        · have hrun := it_t hc hrun
          refine lv_aload_n hx hb dX1_find_30 rfl (lv_at hl 0 rfl) ?_
          refine lv_iload_n hx hb dX1_find_31 rfl (lv_at hl 1 rfl) ?_
          refine lv_iload hx hb dX1_find_32 (lv_at hl 3 rfl) ?_
          obtain ⟨q_1, hq_1, hrun⟩ := bd_some hrun
          refine cV_callV (As := [.int x1, .int x5]) (rest := []) (wr := []) (wN := (wX1 kI kJ to ta t_bad q_1.1 q_1.2.1 q_1.2.2)) (ci := 1) (q0 := 0) hE (c_X1_addWith l D kI kJ kS to ta x1 x5 t_bad t_codes t_rows t_size hq_1) (cwV 2 hts gX1_find_X1_addWith rfl rfl rfl (by decide +kernel) ⟨Nat.le_of_ble_eq_true rfl, Nat.le_of_ble_eq_true rfl⟩) hP hD hS [0, 1, 2, 3] [] [0, 1, 2, 3] rfl rfl rfl rfl (by decide) rfl rfl rfl rfl rfl hl.1 rfl (Nat.le_of_ble_eq_true rfl) dX1_find_34 ⟨Nat.le_of_ble_eq_true rfl, Nat.le_of_ble_eq_true rfl⟩ (fun H locs hP hD hS => ?_)
          exact c_J37 x1 x2 x5 t_bad q_1.1 q_1.2.1 q_1.2.2 (fX1_find_L14 x1 x2 t_bad n) ih  hrun _ _ _ hP hD hS (lv_sub hl [0, 1, 2, 3] rfl)
  unfold fX1_find at hrun
  refine lv_aload_n hx hb dX1_find_0 rfl (lv_at hl 0 rfl) ?_
  refine lv_iconst (v := 0) hx hb dX1_find_1 (by decide) ?_
  refine va_put (D := D) (ci := 1) (v := .int 0) (ty := .int) (C := RX1) (T := TX1) (N := 4) hx hb hts iX1_find_X1 tyX1 tyX1_ok nmX1 hown hK hP hD hS 0 rfl rfl 3 (by decide) (hts _ mX1_find_1) (fun _ h9 => h9) rfl (by decide +kernel) rfl rfl (Nat.le_of_ble_eq_true rfl) dX1_find_2 (fun H locs hP hD hS => ?_)
  have hP : va_P D vwCl (wX1 kI kJ to ta t_bad t_codes t_rows 0) H := hP
  have hD : va_D A (wX1 kI kJ to ta t_bad t_codes t_rows 0) := hD
  refine lv_aload_n hx hb dX1_find_5 rfl (lv_at hl 0 rfl) ?_
  refine lv_iload_n hx hb dX1_find_6 rfl (lv_at hl 2 rfl) ?_
  refine lv_lload_n hx hb dX1_find_7 rfl (lv_at hl 3 rfl) ?_
  obtain ⟨q_2, hq_2, hrun⟩ := bd_some hrun
  refine cV_callV (As := [.int x2, .long x3]) (rest := []) (wr := []) (wN := (wX1 kI kJ to ta q_2 t_codes t_rows 0)) (ci := 1) (q0 := 0) hE (c_X1_findBad l D kI kJ kS to ta x2 x3 t_bad t_codes t_rows 0 hq_2) (cwV 2 hts gX1_find_X1_findBad rfl rfl rfl (by decide +kernel) ⟨Nat.le_of_ble_eq_true rfl, Nat.le_of_ble_eq_true rfl⟩) hP hD hS [0, 1, 2, 3] [] [0, 1, 2, 3] rfl rfl rfl rfl (by decide) rfl rfl rfl rfl rfl hl.1 rfl (Nat.le_of_ble_eq_true rfl) dX1_find_8 ⟨Nat.le_of_ble_eq_true rfl, Nat.le_of_ble_eq_true rfl⟩ (fun H locs hP hD hS => ?_)
  refine lv_iconst (v := 0) hx hb dX1_find_11 (by decide) ?_
  refine lv_istore (lv' := [(5, .int 0), (0, .ref to), (1, .int x1), (2, .int x2), (3, .long x3)]) hx hb dX1_find_12 hl (by decide) rfl (fun ls hl => ?_)
  exact c_L14 x1 x2 q_2 5000 0 t_codes t_rows 0  hrun _ _ _ hP hD hS (lv_sub hl [1, 2, 3, 0] rfl)
theorem mJ6_bitCount_0f7a4_1 : Cond.constant RJ6 265 (1431655765) ∈ wsJ6_bitCount_0f7a4 := List.mem_of_getElem? (i := 1) rfl
theorem mJ6_bitCount_0f7a4_2 : Cond.constant RJ6 266 (858993459) ∈ wsJ6_bitCount_0f7a4 := List.mem_of_getElem? (i := 2) rfl
theorem mJ6_bitCount_0f7a4_3 : Cond.constant RJ6 267 (252645135) ∈ wsJ6_bitCount_0f7a4 := List.mem_of_getElem? (i := 3) rfl
set_option maxHeartbeats 4000000 in
set_option maxRecDepth 100000 in
theorem c_J6_bitCount_0f7a4 (l : Launch) (D : va_G) (kI kJ kS : ClassId) (x0 : Int32) {r : Int32} (hrun : fJ6_bitCount_0f7a4 x0 = some r) : cI l D (tyL kI kJ kS) true yJ6_bitCount_0f7a4 wsJ6_bitCount_0f7a4 (rmk 0 0 0 0) [.int x0] [] [] r := by
  refine cI_of (cc := cJ6_bitCount_0f7a4) (maxL := 1) (by decide) rfl (Nat.le_of_ble_eq_true rfl) ?_
  intro p e s m av below meth c A Q ls hE hP hD hS hl hret
  have hE : ent_ p s m av meth c RJ6 cJ6_bitCount_0f7a4 1 (some .int) wsJ6_bitCount_0f7a4 (tyL kI kJ kS) D A true := hE
  obtain ⟨hx, hb, hml, hown, hts, hr, hlocks, hK, hA, hst⟩ := id hE
  have hl : lv_has ls 1 [(0, .int x0)] := hl
  obtain ⟨⟨⟨tW, hZ, hT⟩, hU1, hU2⟩, hnk⟩ := hst rfl
  unfold fJ6_bitCount_0f7a4 at hrun
  refine lv_iload_n hx hb dJ6_bitCount_0f7a4_0 rfl (lv_at hl 0 rfl) ?_
  refine lv_iload_n hx hb dJ6_bitCount_0f7a4_1 rfl (lv_at hl 0 rfl) ?_
  refine lv_iconst (v := 1) hx hb dJ6_bitCount_0f7a4_2 (by decide) ?_
  refine lv_iushr hx hb dJ6_bitCount_0f7a4_3 rfl ?_
  refine lv_ldcw (v := 1431655765) hx hb hown (hts _ mJ6_bitCount_0f7a4_1) dJ6_bitCount_0f7a4_4 ?_
  refine lv_iand hx hb dJ6_bitCount_0f7a4_7 ?_
  refine lv_isub hx hb dJ6_bitCount_0f7a4_8 ?_
  refine lv_topi (fun v_1 ev_1 => ?_)
  have hrun := lt_some ev_1 hrun
  refine lv_istore_n (lv' := [(0, .int v_1)]) hx hb dJ6_bitCount_0f7a4_9 rfl hl (by decide) rfl (fun ls hl => ?_)
  refine lv_iload_n hx hb dJ6_bitCount_0f7a4_10 rfl (lv_at hl 0 rfl) ?_
  refine lv_ldcw (v := 858993459) hx hb hown (hts _ mJ6_bitCount_0f7a4_2) dJ6_bitCount_0f7a4_11 ?_
  refine lv_iand hx hb dJ6_bitCount_0f7a4_14 ?_
  refine lv_iload_n hx hb dJ6_bitCount_0f7a4_15 rfl (lv_at hl 0 rfl) ?_
  refine lv_iconst (v := 2) hx hb dJ6_bitCount_0f7a4_16 (by decide) ?_
  refine lv_iushr hx hb dJ6_bitCount_0f7a4_17 rfl ?_
  refine lv_ldcw (v := 858993459) hx hb hown (hts _ mJ6_bitCount_0f7a4_2) dJ6_bitCount_0f7a4_18 ?_
  refine lv_iand hx hb dJ6_bitCount_0f7a4_21 ?_
  refine lv_iadd hx hb dJ6_bitCount_0f7a4_22 ?_
  refine lv_topi (fun v_2 ev_2 => ?_)
  have hrun := lt_some ev_2 hrun
  refine lv_istore_n (lv' := [(0, .int v_2)]) hx hb dJ6_bitCount_0f7a4_23 rfl hl (by decide) rfl (fun ls hl => ?_)
  refine lv_iload_n hx hb dJ6_bitCount_0f7a4_24 rfl (lv_at hl 0 rfl) ?_
  refine lv_iload_n hx hb dJ6_bitCount_0f7a4_25 rfl (lv_at hl 0 rfl) ?_
  refine lv_iconst (v := 4) hx hb dJ6_bitCount_0f7a4_26 (by decide) ?_
  refine lv_iushr hx hb dJ6_bitCount_0f7a4_27 rfl ?_
  refine lv_iadd hx hb dJ6_bitCount_0f7a4_28 ?_
  refine lv_ldcw (v := 252645135) hx hb hown (hts _ mJ6_bitCount_0f7a4_3) dJ6_bitCount_0f7a4_29 ?_
  refine lv_iand hx hb dJ6_bitCount_0f7a4_32 ?_
  refine lv_topi (fun v_3 ev_3 => ?_)
  have hrun := lt_some ev_3 hrun
  refine lv_istore_n (lv' := [(0, .int v_3)]) hx hb dJ6_bitCount_0f7a4_33 rfl hl (by decide) rfl (fun ls hl => ?_)
  refine lv_iload_n hx hb dJ6_bitCount_0f7a4_34 rfl (lv_at hl 0 rfl) ?_
  refine lv_iload_n hx hb dJ6_bitCount_0f7a4_35 rfl (lv_at hl 0 rfl) ?_
  refine lv_bipush (v := 8) hx hb dJ6_bitCount_0f7a4_36 (by decide) ?_
  refine lv_iushr hx hb dJ6_bitCount_0f7a4_38 rfl ?_
  refine lv_iadd hx hb dJ6_bitCount_0f7a4_39 ?_
  refine lv_topi (fun v_4 ev_4 => ?_)
  have hrun := lt_some ev_4 hrun
  refine lv_istore_n (lv' := [(0, .int v_4)]) hx hb dJ6_bitCount_0f7a4_40 rfl hl (by decide) rfl (fun ls hl => ?_)
  refine lv_iload_n hx hb dJ6_bitCount_0f7a4_41 rfl (lv_at hl 0 rfl) ?_
  refine lv_iload_n hx hb dJ6_bitCount_0f7a4_42 rfl (lv_at hl 0 rfl) ?_
  refine lv_bipush (v := 16) hx hb dJ6_bitCount_0f7a4_43 (by decide) ?_
  refine lv_iushr hx hb dJ6_bitCount_0f7a4_45 rfl ?_
  refine lv_iadd hx hb dJ6_bitCount_0f7a4_46 ?_
  refine lv_topi (fun v_5 ev_5 => ?_)
  have hrun := lt_some ev_5 hrun
  refine lv_istore_n (lv' := [(0, .int v_5)]) hx hb dJ6_bitCount_0f7a4_47 rfl hl (by decide) rfl (fun ls hl => ?_)
  refine lv_iload_n hx hb dJ6_bitCount_0f7a4_48 rfl (lv_at hl 0 rfl) ?_
  refine lv_bipush (v := 63) hx hb dJ6_bitCount_0f7a4_49 (by decide) ?_
  refine lv_iand hx hb dJ6_bitCount_0f7a4_51 ?_
  obtain rfl := Option.some.inj hrun
  exact hret _ _ _ _ rfl dJ6_bitCount_0f7a4_52 hP hD hS
theorem mX1_bestFor_1 : Cond.fieldLink RX1 22 "GateMaze$Primes" "size" "I" ∈ wsX1_bestFor := List.mem_of_getElem? (i := 1) rfl
theorem mX1_bestFor_2 : Cond.fieldLink RX1 19 "GateMaze$Primes" "rows" "[J" ∈ wsX1_bestFor := List.mem_of_getElem? (i := 2) rfl
theorem mX1_bestFor_3 : Cond.fieldLink RX1 15 "GateMaze$Primes" "codes" "[I" ∈ wsX1_bestFor := List.mem_of_getElem? (i := 3) rfl
theorem iX1_bestFor_X1 : ∀ w ∈ u_ws RX1 TX1 4, w ∈ wsX1_bestFor := fun w h => List.mem_cons_of_mem _ (List.mem_append_right _ h)
set_option maxHeartbeats 4000000 in
set_option maxRecDepth 100000 in
theorem c_X1_bestFor (l : Launch) (D : va_G) (kI kJ kS : ClassId) (to : Nat) (ta : Nat → Nat) (x1 : Int64) (t_bad : (Nat → Int64)) (t_codes : (Nat → Int32)) (t_rows : (Nat → Int64)) (t_size : Int32) {r : Int32} (hrun : fX1_bestFor t_codes t_rows t_size x1 = some r) : cI l D (tyL kI kJ kS) true yX1_bestFor wsX1_bestFor (rmk 1 0 0 21) [.ref to, .long x1] (wX1 kI kJ to ta t_bad t_codes t_rows t_size) (wX1 kI kJ to ta t_bad t_codes t_rows t_size) r := by
  refine cI_of (cc := cX1_bestFor) (maxL := 9) (by decide) rfl (Nat.le_of_ble_eq_true rfl) ?_
  intro p e s m av below meth c A Q ls hE hP hD hS hl hret
  have hE : ent_ p s m av meth c RX1 cX1_bestFor 9 (some .int) wsX1_bestFor (tyL kI kJ kS) D A true := hE
  obtain ⟨hx, hb, hml, hown, hts, hr, hlocks, hK, hA, hst⟩ := id hE
  have hl : lv_has ls 9 [(0, .ref to), (1, .long x1)] := hl
  obtain ⟨⟨⟨tW, hZ, hT⟩, hU1, hU2⟩, hnk⟩ := hst rfl
  have c_J94 : ∀ (x1 : Int64) (x3 : Int32) (x4 : Int32) (x5 : Int32) (x6 : Int32) (k11 : Int32 → Int32 → Int32 → Int32 → Option (Int32)) (hk11 : (∀ (x3 : Int32) (x4 : Int32) (x5 : Int32) (x6 : Int32), k11 x3 x4 x5 x6 = some r → wAt p l e (rmk 1 0 0 21) s m av below meth c D A 9 0 0 Q 11 [] [(0, .ref to), (1, .long x1), (3, .int x3), (4, .int x4), (5, .int x5), (6, .int x6)] (wX1 kI kJ to ta t_bad t_codes t_rows t_size))), fX1_bestFor_J94 x1 x3 x4 x5 x6 t_codes t_rows t_size k11 = some r → wAt p l e (rmk 1 0 0 21) s m av below meth c D A 9 0 0 Q 94 [] [(0, .ref to), (1, .long x1), (3, .int x3), (4, .int x4), (5, .int x5), (6, .int x6)] (wX1 kI kJ to ta t_bad t_codes t_rows t_size) := by
    intro x1 x3 x4 x5 x6 k11 hk11 hrun H locs ls hP hD hS hl
    unfold fX1_bestFor_J94 at hrun
    refine lv_iinc (v := x6 + 1) (lv' := [(6, .int (x6 + 1)), (0, .ref to), (1, .long x1), (3, .int x3), (4, .int x4), (5, .int x5)]) hx hb dX1_bestFor_94 hl (k := 5) rfl rfl (by decide) rfl (fun ls hl => ?_)
    refine lv_goto (tgt := 11) hx hb dX1_bestFor_97 (by decide) ?_
    exact hk11 x3 x4 x5 (x6 + 1)  hrun _ _ _ hP hD hS (lv_sub hl [1, 2, 3, 4, 5, 0] rfl)
  have c_J83 : ∀ (x1 : Int64) (x6 : Int32) (x7 : Int32) (x8 : Int32) (k11 : Int32 → Int32 → Int32 → Int32 → Option (Int32)) (hk11 : (∀ (x3 : Int32) (x4 : Int32) (x5 : Int32) (x6 : Int32), k11 x3 x4 x5 x6 = some r → wAt p l e (rmk 1 0 0 21) s m av below meth c D A 9 0 0 Q 11 [] [(0, .ref to), (1, .long x1), (3, .int x3), (4, .int x4), (5, .int x5), (6, .int x6)] (wX1 kI kJ to ta t_bad t_codes t_rows t_size))), fX1_bestFor_J83 x1 x6 x7 x8 t_codes t_rows t_size k11 = some r → wAt p l e (rmk 1 0 0 21) s m av below meth c D A 9 0 0 Q 83 [] [(0, .ref to), (1, .long x1), (6, .int x6), (7, .int x7), (8, .int x8)] (wX1 kI kJ to ta t_bad t_codes t_rows t_size) := by
    intro x1 x6 x7 x8 k11 hk11 hrun H locs ls hP hD hS hl
    unfold fX1_bestFor_J83 at hrun
    refine lv_iload hx hb dX1_bestFor_83 (lv_at hl 2 rfl) ?_
    refine lv_istore_n (lv' := [(3, .int x6), (0, .ref to), (1, .long x1), (6, .int x6), (7, .int x7), (8, .int x8)]) hx hb dX1_bestFor_85 rfl hl (by decide) rfl (fun ls hl => ?_)
    refine lv_iload hx hb dX1_bestFor_86 (lv_at hl 4 rfl) ?_
    refine lv_istore (lv' := [(4, .int x7), (3, .int x6), (0, .ref to), (1, .long x1), (6, .int x6), (7, .int x7), (8, .int x8)]) hx hb dX1_bestFor_88 hl (by decide) rfl (fun ls hl => ?_)
    refine lv_iload hx hb dX1_bestFor_90 (lv_at hl 6 rfl) ?_
    refine lv_istore (lv' := [(5, .int x8), (4, .int x7), (3, .int x6), (0, .ref to), (1, .long x1), (6, .int x6), (7, .int x7), (8, .int x8)]) hx hb dX1_bestFor_92 hl (by decide) rfl (fun ls hl => ?_)
    exact c_J94 x1 x6 x7 x8 x6 k11 hk11  hrun _ _ _ hP hD hS (lv_sub hl [3, 4, 2, 1, 0, 5] rfl)
  have c_L11 : ∀ (x1 : Int64) (n : Nat) (x3 : Int32) (x4 : Int32) (x5 : Int32) (x6 : Int32), fX1_bestFor_L11 x1 t_codes t_rows t_size n x3 x4 x5 x6 = some r → wAt p l e (rmk 1 0 0 21) s m av below meth c D A 9 0 0 Q 11 [] [(0, .ref to), (1, .long x1), (3, .int x3), (4, .int x4), (5, .int x5), (6, .int x6)] (wX1 kI kJ to ta t_bad t_codes t_rows t_size) := by
    intro x1 n
    induction n with
    | zero =>
      intro x3 x4 x5 x6 hrun
      rw [fX1_bestFor_L11] at hrun
      cases hrun
    | succ n ih =>
      intro x3 x4 x5 x6 hrun H locs ls hP hD hS hl
      rw [fX1_bestFor_L11] at hrun
      refine lv_iload hx hb dX1_bestFor_11 (lv_at hl 5 rfl) ?_
      refine lv_aload_n hx hb dX1_bestFor_13 rfl (lv_at hl 0 rfl) ?_
      refine va_get (D := D) (ci := 1) (v := .int t_size) (C := RX1) (T := TX1) (N := 4) hx hb hts iX1_bestFor_X1 hown hK hP 0 rfl rfl 3 (by decide) (hts _ mX1_bestFor_1) (fun _ h9 => h9) rfl dX1_bestFor_14 ?_
      refine lv_icmp_ge (tgt := 100) hx hb dX1_bestFor_17 (by decide) (fun hc => ?_) (fun hc => ?_)
      · have hrun := it_t hc hrun
        refine lv_iload_n hx hb dX1_bestFor_100 rfl (lv_at hl 2 rfl) ?_
        obtain rfl := Option.some.inj hrun
        exact hret _ _ _ _ rfl dX1_bestFor_101 hP hD hS
      · have hrun := it_f hc hrun
        refine lv_iload hx hb dX1_bestFor_20 (lv_at hl 5 rfl) ?_
        refine lv_sipush (v := 729) hx hb dX1_bestFor_22 (by decide) ?_
        refine lv_icmp_ge (tgt := 100) hx hb dX1_bestFor_25 (by decide) (fun hc => ?_) (fun hc => ?_)
        · have hrun := it_t hc hrun
          refine lv_iload_n hx hb dX1_bestFor_100 rfl (lv_at hl 2 rfl) ?_
          obtain rfl := Option.some.inj hrun
          exact hret _ _ _ _ rfl dX1_bestFor_101 hP hD hS
        · have hrun := it_f hc hrun
          refine lv_aload_n hx hb dX1_bestFor_28 rfl (lv_at hl 0 rfl) ?_
          refine va_get (D := D) (ci := 1) (v := .ref (ta 2)) (C := RX1) (T := TX1) (N := 4) hx hb hts iX1_bestFor_X1 hown hK hP 0 rfl rfl 2 (by decide) (hts _ mX1_bestFor_2) (fun _ h9 => h9) rfl dX1_bestFor_29 ?_
          refine lv_iload hx hb dX1_bestFor_32 (lv_at hl 5 rfl) ?_
          obtain ⟨hin, hrun⟩ := gd_some hrun
          refine va_lald hx hb hK hP 3 1 rfl rfl hin dX1_bestFor_34 ?_
          refine lv_lload_n hx hb dX1_bestFor_35 rfl (lv_at hl 1 rfl) ?_
          refine lv_land hx hb dX1_bestFor_36 ?_
          obtain ⟨q_1, hq_1, hrun⟩ := bd_some hrun
          refine cI_callS (As := [.long ((t_rows x6.toNatClampNeg) &&& x1)]) (rest := []) (wr := (wX1 kI kJ to ta t_bad t_codes t_rows t_size)) (wN := (wX1 kI kJ to ta t_bad t_codes t_rows t_size)) hE (c_J13_bitCount_95d88 l D kI kJ kS ((t_rows x6.toNatClampNeg) &&& x1)  hq_1) (va_cwS 1 hts gX1_bestFor_J13_bitCount_95d88 rfl rfl rfl (by decide +kernel) ⟨Nat.le_of_ble_eq_true rfl, Nat.le_of_ble_eq_true rfl⟩) hP hD hS [] [0, 1, 2, 3] [0, 1, 2, 3] rfl rfl rfl rfl (by decide) rfl rfl rfl hl.1 rfl (Nat.le_of_ble_eq_true rfl) dX1_bestFor_37 ⟨Nat.le_of_ble_eq_true rfl, Nat.le_of_ble_eq_true rfl⟩ (fun H locs hP hD hS => ?_)
          refine lv_istore (lv' := [(7, .int q_1), (0, .ref to), (1, .long x1), (3, .int x3), (4, .int x4), (5, .int x5), (6, .int x6)]) hx hb dX1_bestFor_40 hl (by decide) rfl (fun ls hl => ?_)
          refine lv_aload_n hx hb dX1_bestFor_42 rfl (lv_at hl 1 rfl) ?_
          refine va_get (D := D) (ci := 1) (v := .ref (ta 1)) (C := RX1) (T := TX1) (N := 4) hx hb hts iX1_bestFor_X1 hown hK hP 0 rfl rfl 1 (by decide) (hts _ mX1_bestFor_3) (fun _ h9 => h9) rfl dX1_bestFor_43 ?_
          refine lv_iload hx hb dX1_bestFor_46 (lv_at hl 6 rfl) ?_
          obtain ⟨hin, hrun⟩ := gd_some hrun
          refine va_iald hx hb hK hP 2 0 rfl rfl hin dX1_bestFor_48 ?_
          refine lv_bipush (v := 64) hx hb dX1_bestFor_49 (by decide) ?_
          refine lv_idiv hx hb dX1_bestFor_51 (by decide) ?_
          obtain ⟨q_2, hq_2, hrun⟩ := bd_some hrun
          refine cI_callS (As := [.int ((t_codes x6.toNatClampNeg) / 64)]) (rest := []) (wr := (wX1 kI kJ to ta t_bad t_codes t_rows t_size)) (wN := (wX1 kI kJ to ta t_bad t_codes t_rows t_size)) hE (c_J6_bitCount_0f7a4 l D kI kJ kS ((t_codes x6.toNatClampNeg) / 64)  hq_2) (va_cwS 1 hts gX1_bestFor_J6_bitCount_0f7a4 rfl rfl rfl (by decide +kernel) ⟨Nat.le_of_ble_eq_true rfl, Nat.le_of_ble_eq_true rfl⟩) hP hD hS [] [0, 1, 2, 3] [0, 1, 2, 3] rfl rfl rfl rfl (by decide) rfl rfl rfl hl.1 rfl (Nat.le_of_ble_eq_true rfl) dX1_bestFor_52 ⟨Nat.le_of_ble_eq_true rfl, Nat.le_of_ble_eq_true rfl⟩ (fun H locs hP hD hS => ?_)
          refine lv_istore (lv' := [(8, .int q_2), (7, .int q_1), (0, .ref to), (1, .long x1), (3, .int x3), (4, .int x4), (5, .int x5), (6, .int x6)]) hx hb dX1_bestFor_55 hl (by decide) rfl (fun ls hl => ?_)
          refine lv_iload hx hb dX1_bestFor_57 (lv_at hl 1 rfl) ?_
          refine lv_iload hx hb dX1_bestFor_59 (lv_at hl 5 rfl) ?_
          refine lv_icmp_gt (tgt := 83) hx hb dX1_bestFor_61 (by decide) (fun hc => ?_) (fun hc => ?_)
          · have hrun := it_t hc hrun
            exact c_J83 x1 x6 q_1 q_2 (fX1_bestFor_L11 x1 t_codes t_rows t_size n) ih  hrun _ _ _ hP hD hS (lv_sub hl [2, 3, 7, 1, 0] rfl)
          · have hrun := it_f hc hrun
            refine lv_iload hx hb dX1_bestFor_64 (lv_at hl 1 rfl) ?_
            refine lv_iload hx hb dX1_bestFor_66 (lv_at hl 5 rfl) ?_
            refine lv_icmp_ne (tgt := 94) hx hb dX1_bestFor_68 (by decide) (fun hc => ?_) (fun hc => ?_)
            · have hrun := it_f hc hrun
              exact c_J94 x1 x3 x4 x5 x6 (fX1_bestFor_L11 x1 t_codes t_rows t_size n) ih  hrun _ _ _ hP hD hS (lv_sub hl [2, 3, 4, 5, 6, 7] rfl)
            · have hrun := it_t hc hrun
              refine lv_iload hx hb dX1_bestFor_71 (lv_at hl 1 rfl) ?_
              refine lv_if_le (tgt := 94) hx hb dX1_bestFor_73 (by decide) (fun hc => ?_) (fun hc => ?_)
              · have hrun := it_t hc hrun
                exact c_J94 x1 x3 x4 x5 x6 (fX1_bestFor_L11 x1 t_codes t_rows t_size n) ih  hrun _ _ _ hP hD hS (lv_sub hl [2, 3, 4, 5, 6, 7] rfl)
              · have hrun := it_f hc hrun
                refine lv_iload hx hb dX1_bestFor_76 (lv_at hl 0 rfl) ?_
                refine lv_iload hx hb dX1_bestFor_78 (lv_at hl 6 rfl) ?_
                refine lv_icmp_ge (tgt := 94) hx hb dX1_bestFor_80 (by decide) (fun hc => ?_) (fun hc => ?_)
                · have hrun := it_t hc hrun
                  exact c_J94 x1 x3 x4 x5 x6 (fX1_bestFor_L11 x1 t_codes t_rows t_size n) ih  hrun _ _ _ hP hD hS (lv_sub hl [2, 3, 4, 5, 6, 7] rfl)
                · have hrun := it_f hc hrun
                  exact c_J83 x1 x6 q_1 q_2 (fX1_bestFor_L11 x1 t_codes t_rows t_size n) ih  hrun _ _ _ hP hD hS (lv_sub hl [2, 3, 7, 1, 0] rfl)
  unfold fX1_bestFor at hrun
  refine lv_iconst (v := (-1)) hx hb dX1_bestFor_0 (by decide) ?_
  refine lv_istore_n (lv' := [(3, .int ((-1))), (0, .ref to), (1, .long x1)]) hx hb dX1_bestFor_1 rfl hl (by decide) rfl (fun ls hl => ?_)
  refine lv_iconst (v := 0) hx hb dX1_bestFor_2 (by decide) ?_
  refine lv_istore (lv' := [(4, .int 0), (3, .int ((-1))), (0, .ref to), (1, .long x1)]) hx hb dX1_bestFor_3 hl (by decide) rfl (fun ls hl => ?_)
  refine lv_iconst (v := 0) hx hb dX1_bestFor_5 (by decide) ?_
  refine lv_istore (lv' := [(5, .int 0), (4, .int 0), (3, .int ((-1))), (0, .ref to), (1, .long x1)]) hx hb dX1_bestFor_6 hl (by decide) rfl (fun ls hl => ?_)
  refine lv_iconst (v := 0) hx hb dX1_bestFor_8 (by decide) ?_
  refine lv_istore (lv' := [(6, .int 0), (5, .int 0), (4, .int 0), (3, .int ((-1))), (0, .ref to), (1, .long x1)]) hx hb dX1_bestFor_9 hl (by decide) rfl (fun ls hl => ?_)
  exact c_L11 x1 5000 ((-1)) 0 0 0  hrun _ _ _ hP hD hS (lv_sub hl [4, 5, 3, 2, 1, 0] rfl)
theorem mX2_ofInputs_1 : Cond.constantLong RX2 9 (-1) ∈ wsX2_ofInputs := List.mem_of_getElem? (i := 1) rfl
set_option maxHeartbeats 4000000 in
set_option maxRecDepth 100000 in
theorem c_X2_ofInputs (l : Launch) (D : va_G) (kI kJ kS : ClassId) (x0 : Int32) {r : Int64} (hrun : fX2_ofInputs x0 = some r) : cL l D (tyL kI kJ kS) true yX2_ofInputs wsX2_ofInputs (rmk 0 0 0 0) [.int x0] [] [] r := by
  refine cL_of (cc := cX2_ofInputs) (maxL := 1) (by decide) rfl (Nat.le_of_ble_eq_true rfl) ?_
  intro p e s m av below meth c A Q ls hE hP hD hS hl hret
  have hE : ent_ p s m av meth c RX2 cX2_ofInputs 1 (some .long) wsX2_ofInputs (tyL kI kJ kS) D A true := hE
  obtain ⟨hx, hb, hml, hown, hts, hr, hlocks, hK, hA, hst⟩ := id hE
  have hl : lv_has ls 1 [(0, .int x0)] := hl
  obtain ⟨⟨⟨tW, hZ, hT⟩, hU1, hU2⟩, hnk⟩ := hst rfl
  unfold fX2_ofInputs at hrun
  refine lv_iload_n hx hb dX2_ofInputs_0 rfl (lv_at hl 0 rfl) ?_
  refine lv_bipush (v := 6) hx hb dX2_ofInputs_1 (by decide) ?_
  refine lv_icmp_lt (tgt := 12) hx hb dX2_ofInputs_3 (by decide) (fun hc => ?_) (fun hc => ?_)
  · have hrun := it_t hc hrun
    refine lv_lconst (v := 1) hx hb dX2_ofInputs_12 (by decide) ?_
    refine lv_iconst (v := 1) hx hb dX2_ofInputs_13 (by decide) ?_
    refine lv_iload_n hx hb dX2_ofInputs_14 rfl (lv_at hl 0 rfl) ?_
    refine lv_ishl hx hb dX2_ofInputs_15 ?_
    refine lv_lshl hx hb dX2_ofInputs_16 rfl ?_
    refine lv_lconst (v := 1) hx hb dX2_ofInputs_17 (by decide) ?_
    refine lv_lsub hx hb dX2_ofInputs_18 ?_
    obtain rfl := Option.some.inj hrun
    exact hret _ _ _ _ dX2_ofInputs_19 hP hD hS
  · have hrun := it_f hc hrun
    refine lv_ldc2 (v := (-1)) hx hb hown (hts _ mX2_ofInputs_1) dX2_ofInputs_6 ?_
    refine lv_goto (tgt := 19) hx hb dX2_ofInputs_9 (by decide) ?_
    obtain rfl := Option.some.inj hrun
    exact hret _ _ _ _ dX2_ofInputs_19 hP hD hS
theorem mX3_restart_3 : Cond.fieldLink RX3 9 "GateMaze$State" "zeros" "[J" ∈ wsX3_restart := List.mem_of_getElem? (i := 3) rfl
theorem mX3_restart_4 : Cond.fieldLink RX3 15 "GateMaze$State" "ones" "[J" ∈ wsX3_restart := List.mem_of_getElem? (i := 4) rfl
theorem mX3_restart_1 : Cond.fieldLink RX3 25 "GateMaze$State" "inputs" "I" ∈ wsX3_restart := List.mem_of_getElem? (i := 1) rfl
theorem mX3_restart_2 : Cond.fieldLink RX3 35 "GateMaze$State" "remembered" "I" ∈ wsX3_restart := List.mem_of_getElem? (i := 2) rfl
theorem iX3_restart_X3 : ∀ w ∈ u_ws RX3 TX3 8, w ∈ wsX3_restart := fun w h => List.mem_cons_of_mem _ (List.mem_append_right _ h)
set_option maxHeartbeats 4000000 in
set_option maxRecDepth 100000 in
theorem c_X3_restart (l : Launch) (D : va_G) (kI kJ kS : ClassId) (to : Nat) (ta : Nat → Nat) (x1 : Int32) (t_inputs : Int32) (t_remembered : Int32) (t_asks : Int32) (t_hours : Int32) (t_zeros : (Nat → Int64)) (t_ones : (Nat → Int64)) (t_alarms : (Nat → Int32)) (t_faults : (Nat → Int32)) {r : Int32 × Int32 × (Nat → Int64) × (Nat → Int64)} (hrun : fX3_restart t_zeros t_ones x1 = some r) : cV l D (tyL kI kJ kS) true yX3_restart wsX3_restart (rmk 1 0 0 20) [.ref to, .int x1] (wX3 kI kJ to ta t_inputs t_remembered t_asks t_hours t_zeros t_ones t_alarms t_faults) (wX3 kI kJ to ta r.1 r.2.1 t_asks t_hours r.2.2.1 r.2.2.2 t_alarms t_faults) := by
  refine cV_of (cc := cX3_restart) (maxL := 3) (by decide) rfl (Nat.le_of_ble_eq_true rfl) ?_
  intro p e s m av below meth c A Q ls hE hP hD hS hl hret
  have hE : ent_ p s m av meth c RX3 cX3_restart 3 none wsX3_restart (tyL kI kJ kS) D A true := hE
  obtain ⟨hx, hb, hml, hown, hts, hr, hlocks, hK, hA, hst⟩ := id hE
  have hl : lv_has ls 3 [(0, .ref to), (1, .int x1)] := hl
  obtain ⟨⟨⟨tW, hZ, hT⟩, hU1, hU2⟩, hnk⟩ := hst rfl
  have c_L15 : ∀ (x1 : Int32) (t_inputs : Int32) (t_remembered : Int32) (n : Nat) (x2 : Int32) (t_zeros : (Nat → Int64)) (t_ones : (Nat → Int64)), fX3_restart_L15 x1 t_inputs t_remembered n x2 t_zeros t_ones = some r → wAt p l e (rmk 1 0 0 20) s m av below meth c D A 3 0 0 Q 15 [] [(0, .ref to), (1, .int x1), (2, .int x2)] (wX3 kI kJ to ta t_inputs t_remembered t_asks t_hours t_zeros t_ones t_alarms t_faults) := by
    intro x1 t_inputs t_remembered n
    induction n with
    | zero =>
      intro x2 t_zeros t_ones hrun
      rw [fX3_restart_L15] at hrun
      cases hrun
    | succ n ih =>
      intro x2 t_zeros t_ones hrun H locs ls hP hD hS hl
      rw [fX3_restart_L15] at hrun
      refine lv_iload_n hx hb dX3_restart_15 rfl (lv_at hl 2 rfl) ?_
      refine lv_iconst (v := 4) hx hb dX3_restart_16 (by decide) ?_
      refine lv_icmp_ge (tgt := 43) hx hb dX3_restart_17 (by decide) (fun hc => ?_) (fun hc => ?_)
      · have hrun := it_t hc hrun
        obtain rfl := Option.some.inj hrun
        exact hret _ _ _ _ dX3_restart_43 hP hD hS
      · have hrun := it_f hc hrun
        refine lv_aload_n hx hb dX3_restart_20 rfl (lv_at hl 0 rfl) ?_
        refine va_get (D := D) (ci := 2) (v := .ref (ta 0)) (C := RX3) (T := TX3) (N := 8) hx hb hts iX3_restart_X3 hown hK hP 0 rfl rfl 4 (by decide) (hts _ mX3_restart_3) (fun _ h9 => h9) rfl dX3_restart_21 ?_
        refine lv_iload_n hx hb dX3_restart_24 rfl (lv_at hl 2 rfl) ?_
        refine lv_iload_n hx hb dX3_restart_25 rfl (lv_at hl 1 rfl) ?_
        obtain ⟨q_1, hq_1, hrun⟩ := bd_some hrun
        refine cL_callS (As := [.int x1]) (rest := [.int x2, .ref (ta 0)]) (wr := (wX3 kI kJ to ta t_inputs t_remembered t_asks t_hours t_zeros t_ones t_alarms t_faults)) (wN := (wX3 kI kJ to ta t_inputs t_remembered t_asks t_hours t_zeros t_ones t_alarms t_faults)) hE (c_X2_ofInputs l D kI kJ kS x1  hq_1) (va_cwS 1 hts gX3_restart_X2_ofInputs rfl rfl rfl (by decide +kernel) ⟨Nat.le_of_ble_eq_true rfl, Nat.le_of_ble_eq_true rfl⟩) hP hD hS [] [0, 1, 2, 3, 4] [0, 1, 2, 3, 4] rfl rfl rfl rfl (by decide) rfl rfl rfl hl.1 rfl (Nat.le_of_ble_eq_true rfl) dX3_restart_26 ⟨Nat.le_of_ble_eq_true rfl, Nat.le_of_ble_eq_true rfl⟩ (fun H locs hP hD hS => ?_)
        obtain ⟨hin, hrun⟩ := gd_some hrun
        refine va_last hx hb hK hP hD hS 1 1 rfl rfl hin dX3_restart_29 (fun H locs hP hD hS => ?_)
        have hP : va_P D vwCl (wX3 kI kJ to ta t_inputs t_remembered t_asks t_hours (vp_updL t_zeros x2.toNatClampNeg q_1) t_ones t_alarms t_faults) H := hP
        have hD : va_D A (wX3 kI kJ to ta t_inputs t_remembered t_asks t_hours (vp_updL t_zeros x2.toNatClampNeg q_1) t_ones t_alarms t_faults) := hD
        refine lv_aload_n hx hb dX3_restart_30 rfl (lv_at hl 0 rfl) ?_
        refine va_get (D := D) (ci := 2) (v := .ref (ta 1)) (C := RX3) (T := TX3) (N := 8) hx hb hts iX3_restart_X3 hown hK hP 0 rfl rfl 5 (by decide) (hts _ mX3_restart_4) (fun _ h9 => h9) rfl dX3_restart_31 ?_
        refine lv_iload_n hx hb dX3_restart_34 rfl (lv_at hl 2 rfl) ?_
        refine lv_lconst (v := 0) hx hb dX3_restart_35 (by decide) ?_
        obtain ⟨hin, hrun⟩ := gd_some hrun
        refine va_last hx hb hK hP hD hS 2 1 rfl rfl hin dX3_restart_36 (fun H locs hP hD hS => ?_)
        have hP : va_P D vwCl (wX3 kI kJ to ta t_inputs t_remembered t_asks t_hours (vp_updL t_zeros x2.toNatClampNeg q_1) (vp_updL t_ones x2.toNatClampNeg 0) t_alarms t_faults) H := hP
        have hD : va_D A (wX3 kI kJ to ta t_inputs t_remembered t_asks t_hours (vp_updL t_zeros x2.toNatClampNeg q_1) (vp_updL t_ones x2.toNatClampNeg 0) t_alarms t_faults) := hD
        refine lv_iinc (v := x2 + 1) (lv' := [(2, .int (x2 + 1)), (0, .ref to), (1, .int x1)]) hx hb dX3_restart_37 hl (k := 2) rfl rfl (by decide) rfl (fun ls hl => ?_)
        refine lv_goto (tgt := 15) hx hb dX3_restart_40 (by decide) ?_
        exact ih (x2 + 1) (vp_updL t_zeros x2.toNatClampNeg q_1) (vp_updL t_ones x2.toNatClampNeg 0)  hrun _ _ _ hP hD hS (lv_sub hl [1, 2, 0] rfl)
  unfold fX3_restart at hrun
  refine lv_aload_n hx hb dX3_restart_0 rfl (lv_at hl 0 rfl) ?_
  refine lv_iload_n hx hb dX3_restart_1 rfl (lv_at hl 1 rfl) ?_
  refine va_put (D := D) (ci := 2) (v := .int x1) (ty := .int) (C := RX3) (T := TX3) (N := 8) hx hb hts iX3_restart_X3 tyX3 tyX3_ok nmX3 hown hK hP hD hS 0 rfl rfl 0 (by decide) (hts _ mX3_restart_1) (fun _ h9 => h9) rfl (by decide +kernel) rfl rfl (Nat.le_of_ble_eq_true rfl) dX3_restart_2 (fun H locs hP hD hS => ?_)
  have hP : va_P D vwCl (wX3 kI kJ to ta x1 t_remembered t_asks t_hours t_zeros t_ones t_alarms t_faults) H := hP
  have hD : va_D A (wX3 kI kJ to ta x1 t_remembered t_asks t_hours t_zeros t_ones t_alarms t_faults) := hD
  refine lv_aload_n hx hb dX3_restart_5 rfl (lv_at hl 0 rfl) ?_
  refine lv_iload_n hx hb dX3_restart_6 rfl (lv_at hl 1 rfl) ?_
  obtain ⟨q_2, hq_2, hrun⟩ := bd_some hrun
  refine cI_callS (As := [.int x1]) (rest := [.ref to]) (wr := (wX3 kI kJ to ta x1 t_remembered t_asks t_hours t_zeros t_ones t_alarms t_faults)) (wN := (wX3 kI kJ to ta x1 t_remembered t_asks t_hours t_zeros t_ones t_alarms t_faults)) hE (c_X2_inputSet l D kI kJ kS x1  hq_2) (va_cwS 1 hts gX3_restart_X2_inputSet rfl rfl rfl (by decide +kernel) ⟨Nat.le_of_ble_eq_true rfl, Nat.le_of_ble_eq_true rfl⟩) hP hD hS [] [0, 1, 2, 3, 4] [0, 1, 2, 3, 4] rfl rfl rfl rfl (by decide) rfl rfl rfl hl.1 rfl (Nat.le_of_ble_eq_true rfl) dX3_restart_7 ⟨Nat.le_of_ble_eq_true rfl, Nat.le_of_ble_eq_true rfl⟩ (fun H locs hP hD hS => ?_)
  refine va_put (D := D) (ci := 2) (v := .int q_2) (ty := .int) (C := RX3) (T := TX3) (N := 8) hx hb hts iX3_restart_X3 tyX3 tyX3_ok nmX3 hown hK hP hD hS 0 rfl rfl 1 (by decide) (hts _ mX3_restart_2) (fun _ h9 => h9) rfl (by decide +kernel) rfl rfl (Nat.le_of_ble_eq_true rfl) dX3_restart_10 (fun H locs hP hD hS => ?_)
  have hP : va_P D vwCl (wX3 kI kJ to ta x1 q_2 t_asks t_hours t_zeros t_ones t_alarms t_faults) H := hP
  have hD : va_D A (wX3 kI kJ to ta x1 q_2 t_asks t_hours t_zeros t_ones t_alarms t_faults) := hD
  refine lv_iconst (v := 0) hx hb dX3_restart_13 (by decide) ?_
  refine lv_istore_n (lv' := [(2, .int 0), (0, .ref to), (1, .int x1)]) hx hb dX3_restart_14 rfl hl (by decide) rfl (fun ls hl => ?_)
  exact c_L15 x1 x1 q_2 5000 0 t_zeros t_ones  hrun _ _ _ hP hD hS (lv_sub hl [1, 2, 0] rfl)
set_option maxHeartbeats 4000000 in
set_option maxRecDepth 100000 in
theorem c_X3_sum (l : Launch) (D : va_G) (kI kJ kS : ClassId) (ao : Nat) (a_arr : (Nat → Int32)) {r : Int32} (hrun : fX3_sum a_arr = some r) : cI l D (tyL kI kJ kS) true yX3_sum wsX3_sum (rmk 0 0 0 0) [.ref ao] (wAI4 kI ao a_arr) (wAI4 kI ao a_arr) r := by
  refine cI_of (cc := cX3_sum) (maxL := 6) (by decide) rfl (Nat.le_of_ble_eq_true rfl) ?_
  intro p e s m av below meth c A Q ls hE hP hD hS hl hret
  have hE : ent_ p s m av meth c RX3 cX3_sum 6 (some .int) wsX3_sum (tyL kI kJ kS) D A true := hE
  obtain ⟨hx, hb, hml, hown, hts, hr, hlocks, hK, hA, hst⟩ := id hE
  have hl : lv_has ls 6 [(0, .ref ao)] := hl
  obtain ⟨⟨⟨tW, hZ, hT⟩, hU1, hU2⟩, hnk⟩ := hst rfl
  have c_L10 : ∀ (x3 : Int32) (n : Nat) (x1 : Int32) (x4 : Int32), fX3_sum_L10 x3 a_arr n x1 x4 = some r → wAt p l e (rmk 0 0 0 0) s m av below meth c D A 6 0 0 Q 10 [] [(1, .int x1), (2, .ref ao), (3, .int x3), (4, .int x4)] (wAI4 kI ao a_arr) := by
    intro x3 n
    induction n with
    | zero =>
      intro x1 x4 hrun
      rw [fX3_sum_L10] at hrun
      cases hrun
    | succ n ih =>
      intro x1 x4 hrun H locs ls hP hD hS hl
      rw [fX3_sum_L10] at hrun
      refine lv_iload hx hb dX3_sum_10 (lv_at hl 3 rfl) ?_
      refine lv_iload_n hx hb dX3_sum_12 rfl (lv_at hl 2 rfl) ?_
      refine lv_icmp_ge (tgt := 33) hx hb dX3_sum_13 (by decide) (fun hc => ?_) (fun hc => ?_)
      · have hrun := it_t hc hrun
        refine lv_iload_n hx hb dX3_sum_33 rfl (lv_at hl 0 rfl) ?_
        obtain rfl := Option.some.inj hrun
        exact hret _ _ _ _ rfl dX3_sum_34 hP hD hS
      · have hrun := it_f hc hrun
        refine lv_aload_n hx hb dX3_sum_16 rfl (lv_at hl 1 rfl) ?_
        refine lv_iload hx hb dX3_sum_17 (lv_at hl 3 rfl) ?_
        obtain ⟨hin, hrun⟩ := gd_some hrun
        refine va_iald hx hb hK hP 0 0 rfl rfl hin dX3_sum_19 ?_
        refine lv_istore (lv' := [(5, .int (a_arr x4.toNatClampNeg)), (1, .int x1), (2, .ref ao), (3, .int x3), (4, .int x4)]) hx hb dX3_sum_20 hl (by decide) rfl (fun ls hl => ?_)
        refine lv_iload_n hx hb dX3_sum_22 rfl (lv_at hl 1 rfl) ?_
        refine lv_iload hx hb dX3_sum_23 (lv_at hl 0 rfl) ?_
        refine lv_iadd hx hb dX3_sum_25 ?_
        refine lv_istore_n (lv' := [(1, .int (x1 + (a_arr x4.toNatClampNeg))), (5, .int (a_arr x4.toNatClampNeg)), (2, .ref ao), (3, .int x3), (4, .int x4)]) hx hb dX3_sum_26 rfl hl (by decide) rfl (fun ls hl => ?_)
        refine lv_iinc (v := x4 + 1) (lv' := [(4, .int (x4 + 1)), (1, .int (x1 + (a_arr x4.toNatClampNeg))), (5, .int (a_arr x4.toNatClampNeg)), (2, .ref ao), (3, .int x3)]) hx hb dX3_sum_27 hl (k := 4) rfl rfl (by decide) rfl (fun ls hl => ?_)
        refine lv_goto (tgt := 10) hx hb dX3_sum_30 (by decide) ?_
        exact ih (x1 + (a_arr x4.toNatClampNeg)) (x4 + 1)  hrun _ _ _ hP hD hS (lv_sub hl [1, 3, 4, 0] rfl)
  unfold fX3_sum at hrun
  refine lv_iconst (v := 0) hx hb dX3_sum_0 (by decide) ?_
  refine lv_istore_n (lv' := [(1, .int 0), (0, .ref ao)]) hx hb dX3_sum_1 rfl hl (by decide) rfl (fun ls hl => ?_)
  refine lv_aload_n hx hb dX3_sum_2 rfl (lv_at hl 1 rfl) ?_
  refine lv_astore_n (lv' := [(2, .ref ao), (1, .int 0), (0, .ref ao)]) hx hb dX3_sum_3 rfl hl (by decide) rfl (fun ls hl => ?_)
  refine lv_aload_n hx hb dX3_sum_4 rfl (lv_at hl 0 rfl) ?_
  refine va_alen (v := 4) hx hb hK hP 0 0 rfl rfl rfl dX3_sum_5 ?_
  refine lv_istore_n (lv' := [(3, .int 4), (2, .ref ao), (1, .int 0), (0, .ref ao)]) hx hb dX3_sum_6 rfl hl (by decide) rfl (fun ls hl => ?_)
  refine lv_iconst (v := 0) hx hb dX3_sum_7 (by decide) ?_
  refine lv_istore (lv' := [(4, .int 0), (3, .int 4), (2, .ref ao), (1, .int 0), (0, .ref ao)]) hx hb dX3_sum_8 hl (by decide) rfl (fun ls hl => ?_)
  exact c_L10 4 5000 0 0  hrun _ _ _ hP hD hS (lv_sub hl [3, 2, 1, 0] rfl)
theorem mX3_rowCount_1 : Cond.fieldLink RX3 25 "GateMaze$State" "inputs" "I" ∈ wsX3_rowCount := List.mem_of_getElem? (i := 1) rfl
theorem iX3_rowCount_X3 : ∀ w ∈ u_ws RX3 TX3 8, w ∈ wsX3_rowCount := fun w h => List.mem_cons_of_mem _ (List.mem_append_right _ h)
set_option maxHeartbeats 4000000 in
set_option maxRecDepth 100000 in
theorem c_X3_rowCount (l : Launch) (D : va_G) (kI kJ kS : ClassId) (to : Nat) (ta : Nat → Nat) (t_inputs : Int32) (t_remembered : Int32) (t_asks : Int32) (t_hours : Int32) (t_zeros : (Nat → Int64)) (t_ones : (Nat → Int64)) (t_alarms : (Nat → Int32)) (t_faults : (Nat → Int32)) {r : Int32} (hrun : fX3_rowCount t_inputs = some r) : cI l D (tyL kI kJ kS) true yX3_rowCount wsX3_rowCount (rmk 0 0 0 0) [.ref to] (wX3 kI kJ to ta t_inputs t_remembered t_asks t_hours t_zeros t_ones t_alarms t_faults) (wX3 kI kJ to ta t_inputs t_remembered t_asks t_hours t_zeros t_ones t_alarms t_faults) r := by
  refine cI_of (cc := cX3_rowCount) (maxL := 1) (by decide) rfl (Nat.le_of_ble_eq_true rfl) ?_
  intro p e s m av below meth c A Q ls hE hP hD hS hl hret
  have hE : ent_ p s m av meth c RX3 cX3_rowCount 1 (some .int) wsX3_rowCount (tyL kI kJ kS) D A true := hE
  obtain ⟨hx, hb, hml, hown, hts, hr, hlocks, hK, hA, hst⟩ := id hE
  have hl : lv_has ls 1 [(0, .ref to)] := hl
  obtain ⟨⟨⟨tW, hZ, hT⟩, hU1, hU2⟩, hnk⟩ := hst rfl
  unfold fX3_rowCount at hrun
  refine lv_iconst (v := 1) hx hb dX3_rowCount_0 (by decide) ?_
  refine lv_aload_n hx hb dX3_rowCount_1 rfl (lv_at hl 0 rfl) ?_
  refine va_get (D := D) (ci := 2) (v := .int t_inputs) (C := RX3) (T := TX3) (N := 8) hx hb hts iX3_rowCount_X3 hown hK hP 0 rfl rfl 0 (by decide) (hts _ mX3_rowCount_1) (fun _ h9 => h9) rfl dX3_rowCount_2 ?_
  refine lv_ishl hx hb dX3_rowCount_5 ?_
  obtain rfl := Option.some.inj hrun
  exact hret _ _ _ _ rfl dX3_rowCount_6 hP hD hS
theorem mX3_forgotten_1 : Cond.fieldLink RX3 25 "GateMaze$State" "inputs" "I" ∈ wsX3_forgotten := List.mem_of_getElem? (i := 1) rfl
theorem mX3_forgotten_2 : Cond.fieldLink RX3 35 "GateMaze$State" "remembered" "I" ∈ wsX3_forgotten := List.mem_of_getElem? (i := 2) rfl
theorem iX3_forgotten_X3 : ∀ w ∈ u_ws RX3 TX3 8, w ∈ wsX3_forgotten := fun w h => List.mem_cons_of_mem _ (List.mem_append_right _ h)
set_option maxHeartbeats 4000000 in
set_option maxRecDepth 100000 in
theorem c_X3_forgotten (l : Launch) (D : va_G) (kI kJ kS : ClassId) (to : Nat) (ta : Nat → Nat) (t_inputs : Int32) (t_remembered : Int32) (t_asks : Int32) (t_hours : Int32) (t_zeros : (Nat → Int64)) (t_ones : (Nat → Int64)) (t_alarms : (Nat → Int32)) (t_faults : (Nat → Int32)) {r : Int32} (hrun : fX3_forgotten t_inputs t_remembered = some r) : cI l D (tyL kI kJ kS) true yX3_forgotten wsX3_forgotten (rmk 1 0 0 20) [.ref to] (wX3 kI kJ to ta t_inputs t_remembered t_asks t_hours t_zeros t_ones t_alarms t_faults) (wX3 kI kJ to ta t_inputs t_remembered t_asks t_hours t_zeros t_ones t_alarms t_faults) r := by
  refine cI_of (cc := cX3_forgotten) (maxL := 1) (by decide) rfl (Nat.le_of_ble_eq_true rfl) ?_
  intro p e s m av below meth c A Q ls hE hP hD hS hl hret
  have hE : ent_ p s m av meth c RX3 cX3_forgotten 1 (some .int) wsX3_forgotten (tyL kI kJ kS) D A true := hE
  obtain ⟨hx, hb, hml, hown, hts, hr, hlocks, hK, hA, hst⟩ := id hE
  have hl : lv_has ls 1 [(0, .ref to)] := hl
  obtain ⟨⟨⟨tW, hZ, hT⟩, hU1, hU2⟩, hnk⟩ := hst rfl
  unfold fX3_forgotten at hrun
  refine lv_aload_n hx hb dX3_forgotten_0 rfl (lv_at hl 0 rfl) ?_
  refine va_get (D := D) (ci := 2) (v := .int t_inputs) (C := RX3) (T := TX3) (N := 8) hx hb hts iX3_forgotten_X3 hown hK hP 0 rfl rfl 0 (by decide) (hts _ mX3_forgotten_1) (fun _ h9 => h9) rfl dX3_forgotten_1 ?_
  obtain ⟨q_1, hq_1, hrun⟩ := bd_some hrun
  refine cI_callS (As := [.int t_inputs]) (rest := []) (wr := (wX3 kI kJ to ta t_inputs t_remembered t_asks t_hours t_zeros t_ones t_alarms t_faults)) (wN := (wX3 kI kJ to ta t_inputs t_remembered t_asks t_hours t_zeros t_ones t_alarms t_faults)) hE (c_X2_inputSet l D kI kJ kS t_inputs  hq_1) (va_cwS 1 hts gX3_forgotten_X2_inputSet rfl rfl rfl (by decide +kernel) ⟨Nat.le_of_ble_eq_true rfl, Nat.le_of_ble_eq_true rfl⟩) hP hD hS [] [0, 1, 2, 3, 4] [0, 1, 2, 3, 4] rfl rfl rfl rfl (by decide) rfl rfl rfl hl.1 rfl (Nat.le_of_ble_eq_true rfl) dX3_forgotten_4 ⟨Nat.le_of_ble_eq_true rfl, Nat.le_of_ble_eq_true rfl⟩ (fun H locs hP hD hS => ?_)
  refine lv_aload_n hx hb dX3_forgotten_7 rfl (lv_at hl 0 rfl) ?_
  refine va_get (D := D) (ci := 2) (v := .int t_remembered) (C := RX3) (T := TX3) (N := 8) hx hb hts iX3_forgotten_X3 hown hK hP 0 rfl rfl 1 (by decide) (hts _ mX3_forgotten_2) (fun _ h9 => h9) rfl dX3_forgotten_8 ?_
  refine lv_iconst (v := (-1)) hx hb dX3_forgotten_11 (by decide) ?_
  refine lv_ixor hx hb dX3_forgotten_12 ?_
  refine lv_iand hx hb dX3_forgotten_13 ?_
  obtain rfl := Option.some.inj hrun
  exact hret _ _ _ _ rfl dX3_forgotten_14 hP hD hS
theorem mX3_remembers_1 : Cond.fieldLink RX3 35 "GateMaze$State" "remembered" "I" ∈ wsX3_remembers := List.mem_of_getElem? (i := 1) rfl
theorem iX3_remembers_X3 : ∀ w ∈ u_ws RX3 TX3 8, w ∈ wsX3_remembers := fun w h => List.mem_cons_of_mem _ (List.mem_append_right _ h)
set_option maxHeartbeats 4000000 in
set_option maxRecDepth 100000 in
theorem c_X3_remembers (l : Launch) (D : va_G) (kI kJ kS : ClassId) (to : Nat) (ta : Nat → Nat) (x1 : Int32) (t_inputs : Int32) (t_remembered : Int32) (t_asks : Int32) (t_hours : Int32) (t_zeros : (Nat → Int64)) (t_ones : (Nat → Int64)) (t_alarms : (Nat → Int32)) (t_faults : (Nat → Int32)) {r : Int32} (hrun : fX3_remembers t_remembered x1 = some r) : cI l D (tyL kI kJ kS) true yX3_remembers wsX3_remembers (rmk 0 0 0 0) [.ref to, .int x1] (wX3 kI kJ to ta t_inputs t_remembered t_asks t_hours t_zeros t_ones t_alarms t_faults) (wX3 kI kJ to ta t_inputs t_remembered t_asks t_hours t_zeros t_ones t_alarms t_faults) r := by
  refine cI_of (cc := cX3_remembers) (maxL := 2) (by decide) rfl (Nat.le_of_ble_eq_true rfl) ?_
  intro p e s m av below meth c A Q ls hE hP hD hS hl hret
  have hE : ent_ p s m av meth c RX3 cX3_remembers 2 (some .boolean) wsX3_remembers (tyL kI kJ kS) D A true := hE
  obtain ⟨hx, hb, hml, hown, hts, hr, hlocks, hK, hA, hst⟩ := id hE
  have hl : lv_has ls 2 [(0, .ref to), (1, .int x1)] := hl
  obtain ⟨⟨⟨tW, hZ, hT⟩, hU1, hU2⟩, hnk⟩ := hst rfl
  unfold fX3_remembers at hrun
  refine lv_aload_n hx hb dX3_remembers_0 rfl (lv_at hl 0 rfl) ?_
  refine va_get (D := D) (ci := 2) (v := .int t_remembered) (C := RX3) (T := TX3) (N := 8) hx hb hts iX3_remembers_X3 hown hK hP 0 rfl rfl 1 (by decide) (hts _ mX3_remembers_1) (fun _ h9 => h9) rfl dX3_remembers_1 ?_
  refine lv_iload_n hx hb dX3_remembers_4 rfl (lv_at hl 1 rfl) ?_
  refine lv_ishr hx hb dX3_remembers_5 ?_
  refine lv_iconst (v := 1) hx hb dX3_remembers_6 (by decide) ?_
  refine lv_iand hx hb dX3_remembers_7 ?_
  refine lv_if_eq (tgt := 15) hx hb dX3_remembers_8 (by decide) (fun hc => ?_) (fun hc => ?_)
  · have hrun := it_t hc hrun
    refine lv_iconst (v := 0) hx hb dX3_remembers_15 (by decide) ?_
    obtain rfl := Option.some.inj hrun
    exact hret _ _ _ _ (show narrow .boolean (.int 0) = .int 0 from rfl) dX3_remembers_16 hP hD hS
  · have hrun := it_f hc hrun
    refine lv_iconst (v := 1) hx hb dX3_remembers_11 (by decide) ?_
    refine lv_goto (tgt := 16) hx hb dX3_remembers_12 (by decide) ?_
    obtain rfl := Option.some.inj hrun
    exact hret _ _ _ _ (show narrow .boolean (.int 1) = .int 1 from rfl) dX3_remembers_16 hP hD hS
set_option maxHeartbeats 4000000 in
set_option maxRecDepth 100000 in
theorem c_X6_isOutput (l : Launch) (D : va_G) (kI kJ kS : ClassId) (x0 : Int32) {r : Int32} (hrun : fX6_isOutput x0 = some r) : cI l D (tyL kI kJ kS) true yX6_isOutput wsX6_isOutput (rmk 0 0 0 0) [.int x0] [] [] r := by
  refine cI_of (cc := cX6_isOutput) (maxL := 1) (by decide) rfl (Nat.le_of_ble_eq_true rfl) ?_
  intro p e s m av below meth c A Q ls hE hP hD hS hl hret
  have hE : ent_ p s m av meth c RX6 cX6_isOutput 1 (some .boolean) wsX6_isOutput (tyL kI kJ kS) D A true := hE
  obtain ⟨hx, hb, hml, hown, hts, hr, hlocks, hK, hA, hst⟩ := id hE
  have hl : lv_has ls 1 [(0, .int x0)] := hl
  obtain ⟨⟨⟨tW, hZ, hT⟩, hU1, hU2⟩, hnk⟩ := hst rfl
  unfold fX6_isOutput at hrun
  refine lv_iload_n hx hb dX6_isOutput_0 rfl (lv_at hl 0 rfl) ?_
  refine lv_if_lt (tgt := 13) hx hb dX6_isOutput_1 (by decide) (fun hc => ?_) (fun hc => ?_)
  · have hrun := it_t hc hrun
    refine lv_iconst (v := 0) hx hb dX6_isOutput_13 (by decide) ?_
    obtain rfl := Option.some.inj hrun
    exact hret _ _ _ _ (show narrow .boolean (.int 0) = .int 0 from rfl) dX6_isOutput_14 hP hD hS
  · have hrun := it_f hc hrun
    refine lv_iload_n hx hb dX6_isOutput_4 rfl (lv_at hl 0 rfl) ?_
    refine lv_iconst (v := 4) hx hb dX6_isOutput_5 (by decide) ?_
    refine lv_icmp_ge (tgt := 13) hx hb dX6_isOutput_6 (by decide) (fun hc => ?_) (fun hc => ?_)
    · have hrun := it_t hc hrun
      refine lv_iconst (v := 0) hx hb dX6_isOutput_13 (by decide) ?_
      obtain rfl := Option.some.inj hrun
      exact hret _ _ _ _ (show narrow .boolean (.int 0) = .int 0 from rfl) dX6_isOutput_14 hP hD hS
    · have hrun := it_f hc hrun
      refine lv_iconst (v := 1) hx hb dX6_isOutput_9 (by decide) ?_
      refine lv_goto (tgt := 14) hx hb dX6_isOutput_10 (by decide) ?_
      obtain rfl := Option.some.inj hrun
      exact hret _ _ _ _ (show narrow .boolean (.int 1) = .int 1 from rfl) dX6_isOutput_14 hP hD hS
theorem mX3_zerosOf_3 : Cond.initialized RX6 ∈ wsX3_zerosOf := List.mem_of_getElem? (i := 3) rfl
theorem mX3_zerosOf_2 : Cond.static yX6_isOutput ∈ wsX3_zerosOf := List.mem_of_getElem? (i := 2) rfl
theorem mX3_zerosOf_1 : Cond.fieldLink RX3 9 "GateMaze$State" "zeros" "[J" ∈ wsX3_zerosOf := List.mem_of_getElem? (i := 1) rfl
theorem iX3_zerosOf_X3 : ∀ w ∈ u_ws RX3 TX3 8, w ∈ wsX3_zerosOf := fun w h => List.mem_cons_of_mem _ (List.mem_append_right _ h)
set_option maxHeartbeats 4000000 in
set_option maxRecDepth 100000 in
theorem c_X3_zerosOf (l : Launch) (D : va_G) (kI kJ kS : ClassId) (to : Nat) (ta : Nat → Nat) (x1 : Int32) (t_inputs : Int32) (t_remembered : Int32) (t_asks : Int32) (t_hours : Int32) (t_zeros : (Nat → Int64)) (t_ones : (Nat → Int64)) (t_alarms : (Nat → Int32)) (t_faults : (Nat → Int32)) {r : Int64} (hrun : fX3_zerosOf t_zeros x1 = some r) : cL l D (tyL kI kJ kS) true yX3_zerosOf wsX3_zerosOf (rmk 1 0 0 20) [.ref to, .int x1] (wX3 kI kJ to ta t_inputs t_remembered t_asks t_hours t_zeros t_ones t_alarms t_faults) (wX3 kI kJ to ta t_inputs t_remembered t_asks t_hours t_zeros t_ones t_alarms t_faults) r := by
  refine cL_of (cc := cX3_zerosOf) (maxL := 2) (by decide) rfl (Nat.le_of_ble_eq_true rfl) ?_
  intro p e s m av below meth c A Q ls hE hP hD hS hl hret
  have hE : ent_ p s m av meth c RX3 cX3_zerosOf 2 (some .long) wsX3_zerosOf (tyL kI kJ kS) D A true := hE
  obtain ⟨hx, hb, hml, hown, hts, hr, hlocks, hK, hA, hst⟩ := id hE
  have hl : lv_has ls 2 [(0, .ref to), (1, .int x1)] := hl
  obtain ⟨⟨⟨tW, hZ, hT⟩, hU1, hU2⟩, hnk⟩ := hst rfl
  unfold fX3_zerosOf at hrun
  refine lv_iload_n hx hb dX3_zerosOf_0 rfl (lv_at hl 1 rfl) ?_
  obtain ⟨q_1, hq_1, hrun⟩ := bd_some hrun
  refine cI_callSN (As := [.int x1]) (rest := []) (wr := (wX3 kI kJ to ta t_inputs t_remembered t_asks t_hours t_zeros t_ones t_alarms t_faults)) (wN := (wX3 kI kJ to ta t_inputs t_remembered t_asks t_hours t_zeros t_ones t_alarms t_faults)) hE (c_X6_isOutput l D kI kJ kS x1  hq_1) ⟨va_cnB 1 hts ggX3_zerosOf_X6_isOutput rfl rfl rfl (nm_5 hnk) (hts _ mX3_zerosOf_3) (by decide +kernel) ⟨Nat.le_of_ble_eq_true rfl, Nat.le_of_ble_eq_true rfl⟩, hts _ mX3_zerosOf_2, trivial⟩ hP hD hS [] [0, 1, 2, 3, 4] [0, 1, 2, 3, 4] rfl rfl rfl rfl (by decide) rfl rfl rfl hl.1 rfl (Nat.le_of_ble_eq_true rfl) dX3_zerosOf_1 ⟨Nat.le_of_ble_eq_true rfl, Nat.le_of_ble_eq_true rfl⟩ (fun H locs hP hD hS => ?_)
  refine lv_if_eq (tgt := 16) hx hb dX3_zerosOf_4 (by decide) (fun hc => ?_) (fun hc => ?_)
  · have hrun := it_t hc hrun
    refine lv_lconst (v := 0) hx hb dX3_zerosOf_16 (by decide) ?_
    obtain rfl := Option.some.inj hrun
    exact hret _ _ _ _ dX3_zerosOf_17 hP hD hS
  · have hrun := it_f hc hrun
    refine lv_aload_n hx hb dX3_zerosOf_7 rfl (lv_at hl 0 rfl) ?_
    refine va_get (D := D) (ci := 2) (v := .ref (ta 0)) (C := RX3) (T := TX3) (N := 8) hx hb hts iX3_zerosOf_X3 hown hK hP 0 rfl rfl 4 (by decide) (hts _ mX3_zerosOf_1) (fun _ h9 => h9) rfl dX3_zerosOf_8 ?_
    refine lv_iload_n hx hb dX3_zerosOf_11 rfl (lv_at hl 1 rfl) ?_
    obtain ⟨hin, hrun⟩ := gd_some hrun
    refine va_lald hx hb hK hP 1 1 rfl rfl hin dX3_zerosOf_12 ?_
    refine lv_goto (tgt := 17) hx hb dX3_zerosOf_13 (by decide) ?_
    obtain rfl := Option.some.inj hrun
    exact hret _ _ _ _ dX3_zerosOf_17 hP hD hS
theorem mX3_onesOf_3 : Cond.initialized RX6 ∈ wsX3_onesOf := List.mem_of_getElem? (i := 3) rfl
theorem mX3_onesOf_2 : Cond.static yX6_isOutput ∈ wsX3_onesOf := List.mem_of_getElem? (i := 2) rfl
theorem mX3_onesOf_1 : Cond.fieldLink RX3 15 "GateMaze$State" "ones" "[J" ∈ wsX3_onesOf := List.mem_of_getElem? (i := 1) rfl
theorem iX3_onesOf_X3 : ∀ w ∈ u_ws RX3 TX3 8, w ∈ wsX3_onesOf := fun w h => List.mem_cons_of_mem _ (List.mem_append_right _ h)
set_option maxHeartbeats 4000000 in
set_option maxRecDepth 100000 in
theorem c_X3_onesOf (l : Launch) (D : va_G) (kI kJ kS : ClassId) (to : Nat) (ta : Nat → Nat) (x1 : Int32) (t_inputs : Int32) (t_remembered : Int32) (t_asks : Int32) (t_hours : Int32) (t_zeros : (Nat → Int64)) (t_ones : (Nat → Int64)) (t_alarms : (Nat → Int32)) (t_faults : (Nat → Int32)) {r : Int64} (hrun : fX3_onesOf t_ones x1 = some r) : cL l D (tyL kI kJ kS) true yX3_onesOf wsX3_onesOf (rmk 1 0 0 20) [.ref to, .int x1] (wX3 kI kJ to ta t_inputs t_remembered t_asks t_hours t_zeros t_ones t_alarms t_faults) (wX3 kI kJ to ta t_inputs t_remembered t_asks t_hours t_zeros t_ones t_alarms t_faults) r := by
  refine cL_of (cc := cX3_onesOf) (maxL := 2) (by decide) rfl (Nat.le_of_ble_eq_true rfl) ?_
  intro p e s m av below meth c A Q ls hE hP hD hS hl hret
  have hE : ent_ p s m av meth c RX3 cX3_onesOf 2 (some .long) wsX3_onesOf (tyL kI kJ kS) D A true := hE
  obtain ⟨hx, hb, hml, hown, hts, hr, hlocks, hK, hA, hst⟩ := id hE
  have hl : lv_has ls 2 [(0, .ref to), (1, .int x1)] := hl
  obtain ⟨⟨⟨tW, hZ, hT⟩, hU1, hU2⟩, hnk⟩ := hst rfl
  unfold fX3_onesOf at hrun
  refine lv_iload_n hx hb dX3_onesOf_0 rfl (lv_at hl 1 rfl) ?_
  obtain ⟨q_1, hq_1, hrun⟩ := bd_some hrun
  refine cI_callSN (As := [.int x1]) (rest := []) (wr := (wX3 kI kJ to ta t_inputs t_remembered t_asks t_hours t_zeros t_ones t_alarms t_faults)) (wN := (wX3 kI kJ to ta t_inputs t_remembered t_asks t_hours t_zeros t_ones t_alarms t_faults)) hE (c_X6_isOutput l D kI kJ kS x1  hq_1) ⟨va_cnB 1 hts ggX3_onesOf_X6_isOutput rfl rfl rfl (nm_5 hnk) (hts _ mX3_onesOf_3) (by decide +kernel) ⟨Nat.le_of_ble_eq_true rfl, Nat.le_of_ble_eq_true rfl⟩, hts _ mX3_onesOf_2, trivial⟩ hP hD hS [] [0, 1, 2, 3, 4] [0, 1, 2, 3, 4] rfl rfl rfl rfl (by decide) rfl rfl rfl hl.1 rfl (Nat.le_of_ble_eq_true rfl) dX3_onesOf_1 ⟨Nat.le_of_ble_eq_true rfl, Nat.le_of_ble_eq_true rfl⟩ (fun H locs hP hD hS => ?_)
  refine lv_if_eq (tgt := 16) hx hb dX3_onesOf_4 (by decide) (fun hc => ?_) (fun hc => ?_)
  · have hrun := it_t hc hrun
    refine lv_lconst (v := 0) hx hb dX3_onesOf_16 (by decide) ?_
    obtain rfl := Option.some.inj hrun
    exact hret _ _ _ _ dX3_onesOf_17 hP hD hS
  · have hrun := it_f hc hrun
    refine lv_aload_n hx hb dX3_onesOf_7 rfl (lv_at hl 0 rfl) ?_
    refine va_get (D := D) (ci := 2) (v := .ref (ta 1)) (C := RX3) (T := TX3) (N := 8) hx hb hts iX3_onesOf_X3 hown hK hP 0 rfl rfl 5 (by decide) (hts _ mX3_onesOf_1) (fun _ h9 => h9) rfl dX3_onesOf_8 ?_
    refine lv_iload_n hx hb dX3_onesOf_11 rfl (lv_at hl 1 rfl) ?_
    obtain ⟨hin, hrun⟩ := gd_some hrun
    refine va_lald hx hb hK hP 2 1 rfl rfl hin dX3_onesOf_12 ?_
    refine lv_goto (tgt := 17) hx hb dX3_onesOf_13 (by decide) ?_
    obtain rfl := Option.some.inj hrun
    exact hret _ _ _ _ dX3_onesOf_17 hP hD hS
theorem mX3_alarmsOf_3 : Cond.initialized RX6 ∈ wsX3_alarmsOf := List.mem_of_getElem? (i := 3) rfl
theorem mX3_alarmsOf_2 : Cond.static yX6_isOutput ∈ wsX3_alarmsOf := List.mem_of_getElem? (i := 2) rfl
theorem mX3_alarmsOf_1 : Cond.fieldLink RX3 18 "GateMaze$State" "alarms" "[I" ∈ wsX3_alarmsOf := List.mem_of_getElem? (i := 1) rfl
theorem iX3_alarmsOf_X3 : ∀ w ∈ u_ws RX3 TX3 8, w ∈ wsX3_alarmsOf := fun w h => List.mem_cons_of_mem _ (List.mem_append_right _ h)
set_option maxHeartbeats 4000000 in
set_option maxRecDepth 100000 in
theorem c_X3_alarmsOf (l : Launch) (D : va_G) (kI kJ kS : ClassId) (to : Nat) (ta : Nat → Nat) (x1 : Int32) (t_inputs : Int32) (t_remembered : Int32) (t_asks : Int32) (t_hours : Int32) (t_zeros : (Nat → Int64)) (t_ones : (Nat → Int64)) (t_alarms : (Nat → Int32)) (t_faults : (Nat → Int32)) {r : Int32} (hrun : fX3_alarmsOf t_alarms x1 = some r) : cI l D (tyL kI kJ kS) true yX3_alarmsOf wsX3_alarmsOf (rmk 1 0 0 20) [.ref to, .int x1] (wX3 kI kJ to ta t_inputs t_remembered t_asks t_hours t_zeros t_ones t_alarms t_faults) (wX3 kI kJ to ta t_inputs t_remembered t_asks t_hours t_zeros t_ones t_alarms t_faults) r := by
  refine cI_of (cc := cX3_alarmsOf) (maxL := 2) (by decide) rfl (Nat.le_of_ble_eq_true rfl) ?_
  intro p e s m av below meth c A Q ls hE hP hD hS hl hret
  have hE : ent_ p s m av meth c RX3 cX3_alarmsOf 2 (some .int) wsX3_alarmsOf (tyL kI kJ kS) D A true := hE
  obtain ⟨hx, hb, hml, hown, hts, hr, hlocks, hK, hA, hst⟩ := id hE
  have hl : lv_has ls 2 [(0, .ref to), (1, .int x1)] := hl
  obtain ⟨⟨⟨tW, hZ, hT⟩, hU1, hU2⟩, hnk⟩ := hst rfl
  unfold fX3_alarmsOf at hrun
  refine lv_iload_n hx hb dX3_alarmsOf_0 rfl (lv_at hl 1 rfl) ?_
  obtain ⟨q_1, hq_1, hrun⟩ := bd_some hrun
  refine cI_callSN (As := [.int x1]) (rest := []) (wr := (wX3 kI kJ to ta t_inputs t_remembered t_asks t_hours t_zeros t_ones t_alarms t_faults)) (wN := (wX3 kI kJ to ta t_inputs t_remembered t_asks t_hours t_zeros t_ones t_alarms t_faults)) hE (c_X6_isOutput l D kI kJ kS x1  hq_1) ⟨va_cnB 1 hts ggX3_alarmsOf_X6_isOutput rfl rfl rfl (nm_5 hnk) (hts _ mX3_alarmsOf_3) (by decide +kernel) ⟨Nat.le_of_ble_eq_true rfl, Nat.le_of_ble_eq_true rfl⟩, hts _ mX3_alarmsOf_2, trivial⟩ hP hD hS [] [0, 1, 2, 3, 4] [0, 1, 2, 3, 4] rfl rfl rfl rfl (by decide) rfl rfl rfl hl.1 rfl (Nat.le_of_ble_eq_true rfl) dX3_alarmsOf_1 ⟨Nat.le_of_ble_eq_true rfl, Nat.le_of_ble_eq_true rfl⟩ (fun H locs hP hD hS => ?_)
  refine lv_if_eq (tgt := 16) hx hb dX3_alarmsOf_4 (by decide) (fun hc => ?_) (fun hc => ?_)
  · have hrun := it_t hc hrun
    refine lv_iconst (v := 0) hx hb dX3_alarmsOf_16 (by decide) ?_
    obtain rfl := Option.some.inj hrun
    exact hret _ _ _ _ rfl dX3_alarmsOf_17 hP hD hS
  · have hrun := it_f hc hrun
    refine lv_aload_n hx hb dX3_alarmsOf_7 rfl (lv_at hl 0 rfl) ?_
    refine va_get (D := D) (ci := 2) (v := .ref (ta 2)) (C := RX3) (T := TX3) (N := 8) hx hb hts iX3_alarmsOf_X3 hown hK hP 0 rfl rfl 6 (by decide) (hts _ mX3_alarmsOf_1) (fun _ h9 => h9) rfl dX3_alarmsOf_8 ?_
    refine lv_iload_n hx hb dX3_alarmsOf_11 rfl (lv_at hl 1 rfl) ?_
    obtain ⟨hin, hrun⟩ := gd_some hrun
    refine va_iald hx hb hK hP 3 0 rfl rfl hin dX3_alarmsOf_12 ?_
    refine lv_goto (tgt := 17) hx hb dX3_alarmsOf_13 (by decide) ?_
    obtain rfl := Option.some.inj hrun
    exact hret _ _ _ _ rfl dX3_alarmsOf_17 hP hD hS
theorem mX3_faultsOf_3 : Cond.initialized RX6 ∈ wsX3_faultsOf := List.mem_of_getElem? (i := 3) rfl
theorem mX3_faultsOf_2 : Cond.static yX6_isOutput ∈ wsX3_faultsOf := List.mem_of_getElem? (i := 2) rfl
theorem mX3_faultsOf_1 : Cond.fieldLink RX3 22 "GateMaze$State" "faults" "[I" ∈ wsX3_faultsOf := List.mem_of_getElem? (i := 1) rfl
theorem iX3_faultsOf_X3 : ∀ w ∈ u_ws RX3 TX3 8, w ∈ wsX3_faultsOf := fun w h => List.mem_cons_of_mem _ (List.mem_append_right _ h)
set_option maxHeartbeats 4000000 in
set_option maxRecDepth 100000 in
theorem c_X3_faultsOf (l : Launch) (D : va_G) (kI kJ kS : ClassId) (to : Nat) (ta : Nat → Nat) (x1 : Int32) (t_inputs : Int32) (t_remembered : Int32) (t_asks : Int32) (t_hours : Int32) (t_zeros : (Nat → Int64)) (t_ones : (Nat → Int64)) (t_alarms : (Nat → Int32)) (t_faults : (Nat → Int32)) {r : Int32} (hrun : fX3_faultsOf t_faults x1 = some r) : cI l D (tyL kI kJ kS) true yX3_faultsOf wsX3_faultsOf (rmk 1 0 0 20) [.ref to, .int x1] (wX3 kI kJ to ta t_inputs t_remembered t_asks t_hours t_zeros t_ones t_alarms t_faults) (wX3 kI kJ to ta t_inputs t_remembered t_asks t_hours t_zeros t_ones t_alarms t_faults) r := by
  refine cI_of (cc := cX3_faultsOf) (maxL := 2) (by decide) rfl (Nat.le_of_ble_eq_true rfl) ?_
  intro p e s m av below meth c A Q ls hE hP hD hS hl hret
  have hE : ent_ p s m av meth c RX3 cX3_faultsOf 2 (some .int) wsX3_faultsOf (tyL kI kJ kS) D A true := hE
  obtain ⟨hx, hb, hml, hown, hts, hr, hlocks, hK, hA, hst⟩ := id hE
  have hl : lv_has ls 2 [(0, .ref to), (1, .int x1)] := hl
  obtain ⟨⟨⟨tW, hZ, hT⟩, hU1, hU2⟩, hnk⟩ := hst rfl
  unfold fX3_faultsOf at hrun
  refine lv_iload_n hx hb dX3_faultsOf_0 rfl (lv_at hl 1 rfl) ?_
  obtain ⟨q_1, hq_1, hrun⟩ := bd_some hrun
  refine cI_callSN (As := [.int x1]) (rest := []) (wr := (wX3 kI kJ to ta t_inputs t_remembered t_asks t_hours t_zeros t_ones t_alarms t_faults)) (wN := (wX3 kI kJ to ta t_inputs t_remembered t_asks t_hours t_zeros t_ones t_alarms t_faults)) hE (c_X6_isOutput l D kI kJ kS x1  hq_1) ⟨va_cnB 1 hts ggX3_faultsOf_X6_isOutput rfl rfl rfl (nm_5 hnk) (hts _ mX3_faultsOf_3) (by decide +kernel) ⟨Nat.le_of_ble_eq_true rfl, Nat.le_of_ble_eq_true rfl⟩, hts _ mX3_faultsOf_2, trivial⟩ hP hD hS [] [0, 1, 2, 3, 4] [0, 1, 2, 3, 4] rfl rfl rfl rfl (by decide) rfl rfl rfl hl.1 rfl (Nat.le_of_ble_eq_true rfl) dX3_faultsOf_1 ⟨Nat.le_of_ble_eq_true rfl, Nat.le_of_ble_eq_true rfl⟩ (fun H locs hP hD hS => ?_)
  refine lv_if_eq (tgt := 16) hx hb dX3_faultsOf_4 (by decide) (fun hc => ?_) (fun hc => ?_)
  · have hrun := it_t hc hrun
    refine lv_iconst (v := 0) hx hb dX3_faultsOf_16 (by decide) ?_
    obtain rfl := Option.some.inj hrun
    exact hret _ _ _ _ rfl dX3_faultsOf_17 hP hD hS
  · have hrun := it_f hc hrun
    refine lv_aload_n hx hb dX3_faultsOf_7 rfl (lv_at hl 0 rfl) ?_
    refine va_get (D := D) (ci := 2) (v := .ref (ta 3)) (C := RX3) (T := TX3) (N := 8) hx hb hts iX3_faultsOf_X3 hown hK hP 0 rfl rfl 7 (by decide) (hts _ mX3_faultsOf_1) (fun _ h9 => h9) rfl dX3_faultsOf_8 ?_
    refine lv_iload_n hx hb dX3_faultsOf_11 rfl (lv_at hl 1 rfl) ?_
    obtain ⟨hin, hrun⟩ := gd_some hrun
    refine va_iald hx hb hK hP 4 0 rfl rfl hin dX3_faultsOf_12 ?_
    refine lv_goto (tgt := 17) hx hb dX3_faultsOf_13 (by decide) ?_
    obtain rfl := Option.some.inj hrun
    exact hret _ _ _ _ rfl dX3_faultsOf_17 hP hD hS
set_option maxHeartbeats 4000000 in
set_option maxRecDepth 100000 in
theorem c_X3_truthAt (l : Launch) (D : va_G) (kI kJ kS : ClassId) (to : Nat) (ta : Nat → Nat) (x1 : Int32) (x2 : Int32) (t_inputs : Int32) (t_remembered : Int32) (t_asks : Int32) (t_hours : Int32) (t_zeros : (Nat → Int64)) (t_ones : (Nat → Int64)) (t_alarms : (Nat → Int32)) (t_faults : (Nat → Int32)) {r : Int32} (hrun : fX3_truthAt t_zeros t_ones x1 x2 = some r) : cI l D (tyL kI kJ kS) true yX3_truthAt wsX3_truthAt (rmk 2 0 0 41) [.ref to, .int x1, .int x2] (wX3 kI kJ to ta t_inputs t_remembered t_asks t_hours t_zeros t_ones t_alarms t_faults) (wX3 kI kJ to ta t_inputs t_remembered t_asks t_hours t_zeros t_ones t_alarms t_faults) r := by
  refine cI_of (cc := cX3_truthAt) (maxL := 3) (by decide) rfl (Nat.le_of_ble_eq_true rfl) ?_
  intro p e s m av below meth c A Q ls hE hP hD hS hl hret
  have hE : ent_ p s m av meth c RX3 cX3_truthAt 3 (some .int) wsX3_truthAt (tyL kI kJ kS) D A true := hE
  obtain ⟨hx, hb, hml, hown, hts, hr, hlocks, hK, hA, hst⟩ := id hE
  have hl : lv_has ls 3 [(0, .ref to), (1, .int x1), (2, .int x2)] := hl
  obtain ⟨⟨⟨tW, hZ, hT⟩, hU1, hU2⟩, hnk⟩ := hst rfl
  unfold fX3_truthAt at hrun
  refine lv_aload_n hx hb dX3_truthAt_0 rfl (lv_at hl 0 rfl) ?_
  refine lv_iload_n hx hb dX3_truthAt_1 rfl (lv_at hl 1 rfl) ?_
  obtain ⟨q_1, hq_1, hrun⟩ := bd_some hrun
  refine cL_callV (As := [.int x1]) (rest := []) (wr := []) (wN := (wX3 kI kJ to ta t_inputs t_remembered t_asks t_hours t_zeros t_ones t_alarms t_faults)) (ci := 2) (q0 := 0) hE (c_X3_onesOf l D kI kJ kS to ta x1 t_inputs t_remembered t_asks t_hours t_zeros t_ones t_alarms t_faults hq_1) (cwV 1 hts gX3_truthAt_X3_onesOf rfl rfl rfl (by decide +kernel) ⟨Nat.le_of_ble_eq_true rfl, Nat.le_of_ble_eq_true rfl⟩) hP hD hS [0, 1, 2, 3, 4] [] [0, 1, 2, 3, 4] rfl rfl rfl rfl (by decide) rfl rfl rfl rfl rfl hl.1 rfl (Nat.le_of_ble_eq_true rfl) dX3_truthAt_2 ⟨Nat.le_of_ble_eq_true rfl, Nat.le_of_ble_eq_true rfl⟩ (fun H locs hP hD hS => ?_)
  refine lv_iload_n hx hb dX3_truthAt_5 rfl (lv_at hl 2 rfl) ?_
  refine lv_lushr hx hb dX3_truthAt_6 rfl ?_
  refine lv_lconst (v := 1) hx hb dX3_truthAt_7 (by decide) ?_
  refine lv_land hx hb dX3_truthAt_8 ?_
  refine lv_lconst (v := 0) hx hb dX3_truthAt_9 (by decide) ?_
  refine W.lcmp hx hb dX3_truthAt_10 ?_
  refine lv_if_eq (tgt := 16) hx hb dX3_truthAt_11 (by decide) (fun hc => ?_) (fun hc => ?_)
  · have hrun := it_t hc hrun
    refine lv_aload_n hx hb dX3_truthAt_16 rfl (lv_at hl 0 rfl) ?_
    refine lv_iload_n hx hb dX3_truthAt_17 rfl (lv_at hl 1 rfl) ?_
    obtain ⟨q_2, hq_2, hrun⟩ := bd_some hrun
    refine cL_callV (As := [.int x1]) (rest := []) (wr := []) (wN := (wX3 kI kJ to ta t_inputs t_remembered t_asks t_hours t_zeros t_ones t_alarms t_faults)) (ci := 2) (q0 := 0) hE (c_X3_zerosOf l D kI kJ kS to ta x1 t_inputs t_remembered t_asks t_hours t_zeros t_ones t_alarms t_faults hq_2) (cwV 1 hts gX3_truthAt_X3_zerosOf rfl rfl rfl (by decide +kernel) ⟨Nat.le_of_ble_eq_true rfl, Nat.le_of_ble_eq_true rfl⟩) hP hD hS [0, 1, 2, 3, 4] [] [0, 1, 2, 3, 4] rfl rfl rfl rfl (by decide) rfl rfl rfl rfl rfl hl.1 rfl (Nat.le_of_ble_eq_true rfl) dX3_truthAt_18 ⟨Nat.le_of_ble_eq_true rfl, Nat.le_of_ble_eq_true rfl⟩ (fun H locs hP hD hS => ?_)
    refine lv_iload_n hx hb dX3_truthAt_21 rfl (lv_at hl 2 rfl) ?_
    refine lv_lushr hx hb dX3_truthAt_22 rfl ?_
    refine lv_lconst (v := 1) hx hb dX3_truthAt_23 (by decide) ?_
    refine lv_land hx hb dX3_truthAt_24 ?_
    refine lv_lconst (v := 0) hx hb dX3_truthAt_25 (by decide) ?_
    refine W.lcmp hx hb dX3_truthAt_26 ?_
    refine lv_if_eq (tgt := 34) hx hb dX3_truthAt_27 (by decide) (fun hc => ?_) (fun hc => ?_)
    · have hrun := it_t hc hrun
      refine lv_iconst (v := 2) hx hb dX3_truthAt_34 (by decide) ?_
      obtain rfl := Option.some.inj hrun
      exact hret _ _ _ _ rfl dX3_truthAt_35 hP hD hS
    · have hrun := it_f hc hrun
      refine lv_iconst (v := 0) hx hb dX3_truthAt_30 (by decide) ?_
      refine lv_goto (tgt := 35) hx hb dX3_truthAt_31 (by decide) ?_
      obtain rfl := Option.some.inj hrun
      exact hret _ _ _ _ rfl dX3_truthAt_35 hP hD hS
  · have hrun := it_f hc hrun
    refine lv_iconst (v := 1) hx hb dX3_truthAt_14 (by decide) ?_
    obtain rfl := Option.some.inj hrun
    exact hret _ _ _ _ rfl dX3_truthAt_15 hP hD hS
theorem mX3_give_3 : Cond.fieldLink RX3 15 "GateMaze$State" "ones" "[J" ∈ wsX3_give := List.mem_of_getElem? (i := 3) rfl
theorem mX3_give_2 : Cond.constantLong RX3 58 (-1) ∈ wsX3_give := List.mem_of_getElem? (i := 2) rfl
theorem mX3_give_5 : Cond.initialized RX6 ∈ wsX3_give := List.mem_of_getElem? (i := 5) rfl
theorem mX3_give_4 : Cond.static yX6_isOutput ∈ wsX3_give := List.mem_of_getElem? (i := 4) rfl
theorem mX3_give_1 : Cond.fieldLink RX3 9 "GateMaze$State" "zeros" "[J" ∈ wsX3_give := List.mem_of_getElem? (i := 1) rfl
theorem iX3_give_X3 : ∀ w ∈ u_ws RX3 TX3 8, w ∈ wsX3_give := fun w h => List.mem_cons_of_mem _ (List.mem_append_right _ h)
set_option maxHeartbeats 4000000 in
set_option maxRecDepth 100000 in
theorem c_X3_give (l : Launch) (D : va_G) (kI kJ kS : ClassId) (to : Nat) (ta : Nat → Nat) (x1 : Int32) (x2 : Int64) (x4 : Int32) (t_inputs : Int32) (t_remembered : Int32) (t_asks : Int32) (t_hours : Int32) (t_zeros : (Nat → Int64)) (t_ones : (Nat → Int64)) (t_alarms : (Nat → Int32)) (t_faults : (Nat → Int32)) {r : (Nat → Int64) × (Nat → Int64)} (hrun : fX3_give t_zeros t_ones x1 x2 x4 = some r) : cV l D (tyL kI kJ kS) true yX3_give wsX3_give (rmk 1 0 0 20) [.ref to, .int x1, .long x2, .int x4] (wX3 kI kJ to ta t_inputs t_remembered t_asks t_hours t_zeros t_ones t_alarms t_faults) (wX3 kI kJ to ta t_inputs t_remembered t_asks t_hours r.1 r.2 t_alarms t_faults) := by
  refine cV_of (cc := cX3_give) (maxL := 5) (by decide) rfl (Nat.le_of_ble_eq_true rfl) ?_
  intro p e s m av below meth c A Q ls hE hP hD hS hl hret
  have hE : ent_ p s m av meth c RX3 cX3_give 5 none wsX3_give (tyL kI kJ kS) D A true := hE
  obtain ⟨hx, hb, hml, hown, hts, hr, hlocks, hK, hA, hst⟩ := id hE
  have hl : lv_has ls 5 [(0, .ref to), (1, .int x1), (2, .long x2), (4, .int x4)] := hl
  obtain ⟨⟨⟨tW, hZ, hT⟩, hU1, hU2⟩, hnk⟩ := hst rfl
  have c_J75 : ∀ (s0 : Int64) (s1 : Int32) (t_zeros : (Nat → Int64)) (t_ones : (Nat → Int64)), fX3_give_J75 s0 s1 t_zeros t_ones = some r → wAt p l e (rmk 1 0 0 20) s m av below meth c D A 5 0 0 Q 75 [.long s0, .int s1, .ref (ta 1)] [] (wX3 kI kJ to ta t_inputs t_remembered t_asks t_hours t_zeros t_ones t_alarms t_faults) := by
    intro s0 s1 t_zeros t_ones hrun H locs ls hP hD hS hl
    unfold fX3_give_J75 at hrun
    obtain ⟨hin, hrun⟩ := gd_some hrun
    refine va_last hx hb hK hP hD hS 2 1 rfl rfl hin dX3_give_75 (fun H locs hP hD hS => ?_)
    have hP : va_P D vwCl (wX3 kI kJ to ta t_inputs t_remembered t_asks t_hours t_zeros (vp_updL t_ones s1.toNatClampNeg s0) t_alarms t_faults) H := hP
    have hD : va_D A (wX3 kI kJ to ta t_inputs t_remembered t_asks t_hours t_zeros (vp_updL t_ones s1.toNatClampNeg s0) t_alarms t_faults) := hD
    obtain rfl := Option.some.inj hrun
    exact hret _ _ _ _ dX3_give_76 hP hD hS
  have c_J40 : ∀ (x1 : Int32) (x2 : Int64) (x4 : Int32) (s0 : Int64) (s1 : Int32) (t_zeros : (Nat → Int64)) (t_ones : (Nat → Int64)), fX3_give_J40 x1 x2 x4 s0 s1 t_zeros t_ones = some r → wAt p l e (rmk 1 0 0 20) s m av below meth c D A 5 0 0 Q 40 [.long s0, .int s1, .ref (ta 0)] [(0, .ref to), (1, .int x1), (2, .long x2), (4, .int x4)] (wX3 kI kJ to ta t_inputs t_remembered t_asks t_hours t_zeros t_ones t_alarms t_faults) := by
    intro x1 x2 x4 s0 s1 t_zeros t_ones hrun H locs ls hP hD hS hl
    unfold fX3_give_J40 at hrun
    obtain ⟨hin, hrun⟩ := gd_some hrun
    refine va_last hx hb hK hP hD hS 1 1 rfl rfl hin dX3_give_40 (fun H locs hP hD hS => ?_)
    have hP : va_P D vwCl (wX3 kI kJ to ta t_inputs t_remembered t_asks t_hours (vp_updL t_zeros s1.toNatClampNeg s0) t_ones t_alarms t_faults) H := hP
    have hD : va_D A (wX3 kI kJ to ta t_inputs t_remembered t_asks t_hours (vp_updL t_zeros s1.toNatClampNeg s0) t_ones t_alarms t_faults) := hD
    refine lv_aload_n hx hb dX3_give_41 rfl (lv_at hl 0 rfl) ?_
    refine va_get (D := D) (ci := 2) (v := .ref (ta 1)) (C := RX3) (T := TX3) (N := 8) hx hb hts iX3_give_X3 hown hK hP 0 rfl rfl 5 (by decide) (hts _ mX3_give_3) (fun _ h9 => h9) rfl dX3_give_42 ?_
    refine lv_iload_n hx hb dX3_give_45 rfl (lv_at hl 1 rfl) ?_
    refine lv_iload hx hb dX3_give_46 (lv_at hl 3 rfl) ?_
    refine lv_iconst (v := 1) hx hb dX3_give_48 (by decide) ?_
    refine lv_icmp_ne (tgt := 63) hx hb dX3_give_49 (by decide) (fun hc => ?_) (fun hc => ?_)
    · have hrun := it_f hc hrun
      refine lv_aload_n hx hb dX3_give_63 rfl (lv_at hl 0 rfl) ?_
      refine va_get (D := D) (ci := 2) (v := .ref (ta 1)) (C := RX3) (T := TX3) (N := 8) hx hb hts iX3_give_X3 hown hK hP 0 rfl rfl 5 (by decide) (hts _ mX3_give_3) (fun _ h9 => h9) rfl dX3_give_64 ?_
      refine lv_iload_n hx hb dX3_give_67 rfl (lv_at hl 1 rfl) ?_
      obtain ⟨hin, hrun⟩ := gd_some hrun
      refine va_lald hx hb hK hP 2 1 rfl rfl hin dX3_give_68 ?_
      refine lv_lload_n hx hb dX3_give_69 rfl (lv_at hl 2 rfl) ?_
      refine lv_ldc2 (v := (-1)) hx hb hown (hts _ mX3_give_2) dX3_give_70 ?_
      refine lv_lxor hx hb dX3_give_73 ?_
      refine lv_land hx hb dX3_give_74 ?_
      exact c_J75 ((t_ones x1.toNatClampNeg) &&& (x2 ^^^ ((-1)))) x1 (vp_updL t_zeros s1.toNatClampNeg s0) t_ones  hrun _ _ _ hP hD hS (lv_sub hl [] rfl)
    · have hrun := it_t hc hrun
      refine lv_aload_n hx hb dX3_give_52 rfl (lv_at hl 0 rfl) ?_
      refine va_get (D := D) (ci := 2) (v := .ref (ta 1)) (C := RX3) (T := TX3) (N := 8) hx hb hts iX3_give_X3 hown hK hP 0 rfl rfl 5 (by decide) (hts _ mX3_give_3) (fun _ h9 => h9) rfl dX3_give_53 ?_
      refine lv_iload_n hx hb dX3_give_56 rfl (lv_at hl 1 rfl) ?_
      obtain ⟨hin, hrun⟩ := gd_some hrun
      refine va_lald hx hb hK hP 2 1 rfl rfl hin dX3_give_57 ?_
      refine lv_lload_n hx hb dX3_give_58 rfl (lv_at hl 2 rfl) ?_
      refine lv_lor hx hb dX3_give_59 ?_
      refine lv_goto (tgt := 75) hx hb dX3_give_60 (by decide) ?_
      exact c_J75 ((t_ones x1.toNatClampNeg) ||| x2) x1 (vp_updL t_zeros s1.toNatClampNeg s0) t_ones  hrun _ _ _ hP hD hS (lv_sub hl [] rfl)
  unfold fX3_give at hrun
  refine lv_iload_n hx hb dX3_give_0 rfl (lv_at hl 1 rfl) ?_
  obtain ⟨q_1, hq_1, hrun⟩ := bd_some hrun
  refine cI_callSN (As := [.int x1]) (rest := []) (wr := (wX3 kI kJ to ta t_inputs t_remembered t_asks t_hours t_zeros t_ones t_alarms t_faults)) (wN := (wX3 kI kJ to ta t_inputs t_remembered t_asks t_hours t_zeros t_ones t_alarms t_faults)) hE (c_X6_isOutput l D kI kJ kS x1  hq_1) ⟨va_cnB 1 hts ggX3_give_X6_isOutput rfl rfl rfl (nm_5 hnk) (hts _ mX3_give_5) (by decide +kernel) ⟨Nat.le_of_ble_eq_true rfl, Nat.le_of_ble_eq_true rfl⟩, hts _ mX3_give_4, trivial⟩ hP hD hS [] [0, 1, 2, 3, 4] [0, 1, 2, 3, 4] rfl rfl rfl rfl (by decide) rfl rfl rfl hl.1 rfl (Nat.le_of_ble_eq_true rfl) dX3_give_1 ⟨Nat.le_of_ble_eq_true rfl, Nat.le_of_ble_eq_true rfl⟩ (fun H locs hP hD hS => ?_)
  refine lv_if_eq (tgt := 76) hx hb dX3_give_4 (by decide) (fun hc => ?_) (fun hc => ?_)
  · have hrun := it_t hc hrun
    obtain rfl := Option.some.inj hrun
    exact hret _ _ _ _ dX3_give_76 hP hD hS
  · have hrun := it_f hc hrun
    refine lv_aload_n hx hb dX3_give_7 rfl (lv_at hl 0 rfl) ?_
    refine va_get (D := D) (ci := 2) (v := .ref (ta 0)) (C := RX3) (T := TX3) (N := 8) hx hb hts iX3_give_X3 hown hK hP 0 rfl rfl 4 (by decide) (hts _ mX3_give_1) (fun _ h9 => h9) rfl dX3_give_8 ?_
    refine lv_iload_n hx hb dX3_give_11 rfl (lv_at hl 1 rfl) ?_
    refine lv_iload hx hb dX3_give_12 (lv_at hl 3 rfl) ?_
    refine lv_if_ne (tgt := 28) hx hb dX3_give_14 (by decide) (fun hc => ?_) (fun hc => ?_)
    · have hrun := it_f hc hrun
      refine lv_aload_n hx hb dX3_give_28 rfl (lv_at hl 0 rfl) ?_
      refine va_get (D := D) (ci := 2) (v := .ref (ta 0)) (C := RX3) (T := TX3) (N := 8) hx hb hts iX3_give_X3 hown hK hP 0 rfl rfl 4 (by decide) (hts _ mX3_give_1) (fun _ h9 => h9) rfl dX3_give_29 ?_
      refine lv_iload_n hx hb dX3_give_32 rfl (lv_at hl 1 rfl) ?_
      obtain ⟨hin, hrun⟩ := gd_some hrun
      refine va_lald hx hb hK hP 1 1 rfl rfl hin dX3_give_33 ?_
      refine lv_lload_n hx hb dX3_give_34 rfl (lv_at hl 2 rfl) ?_
      refine lv_ldc2 (v := (-1)) hx hb hown (hts _ mX3_give_2) dX3_give_35 ?_
      refine lv_lxor hx hb dX3_give_38 ?_
      refine lv_land hx hb dX3_give_39 ?_
      exact c_J40 x1 x2 x4 ((t_zeros x1.toNatClampNeg) &&& (x2 ^^^ ((-1)))) x1 t_zeros t_ones  hrun _ _ _ hP hD hS (lv_sub hl [0, 1, 2, 3] rfl)
    · have hrun := it_t hc hrun
      refine lv_aload_n hx hb dX3_give_17 rfl (lv_at hl 0 rfl) ?_
      refine va_get (D := D) (ci := 2) (v := .ref (ta 0)) (C := RX3) (T := TX3) (N := 8) hx hb hts iX3_give_X3 hown hK hP 0 rfl rfl 4 (by decide) (hts _ mX3_give_1) (fun _ h9 => h9) rfl dX3_give_18 ?_
      refine lv_iload_n hx hb dX3_give_21 rfl (lv_at hl 1 rfl) ?_
      obtain ⟨hin, hrun⟩ := gd_some hrun
      refine va_lald hx hb hK hP 1 1 rfl rfl hin dX3_give_22 ?_
      refine lv_lload_n hx hb dX3_give_23 rfl (lv_at hl 2 rfl) ?_
      refine lv_lor hx hb dX3_give_24 ?_
      refine lv_goto (tgt := 40) hx hb dX3_give_25 (by decide) ?_
      exact c_J40 x1 x2 x4 ((t_zeros x1.toNatClampNeg) ||| x2) x1 t_zeros t_ones  hrun _ _ _ hP hD hS (lv_sub hl [0, 1, 2, 3] rfl)
theorem mX3_turnAround_4 : Cond.initialized RX6 ∈ wsX3_turnAround := List.mem_of_getElem? (i := 4) rfl
theorem mX3_turnAround_3 : Cond.static yX6_isOutput ∈ wsX3_turnAround := List.mem_of_getElem? (i := 3) rfl
theorem mX3_turnAround_1 : Cond.fieldLink RX3 15 "GateMaze$State" "ones" "[J" ∈ wsX3_turnAround := List.mem_of_getElem? (i := 1) rfl
theorem mX3_turnAround_2 : Cond.fieldLink RX3 9 "GateMaze$State" "zeros" "[J" ∈ wsX3_turnAround := List.mem_of_getElem? (i := 2) rfl
theorem iX3_turnAround_X3 : ∀ w ∈ u_ws RX3 TX3 8, w ∈ wsX3_turnAround := fun w h => List.mem_cons_of_mem _ (List.mem_append_right _ h)
set_option maxHeartbeats 4000000 in
set_option maxRecDepth 100000 in
theorem c_X3_turnAround (l : Launch) (D : va_G) (kI kJ kS : ClassId) (to : Nat) (ta : Nat → Nat) (x1 : Int32) (t_inputs : Int32) (t_remembered : Int32) (t_asks : Int32) (t_hours : Int32) (t_zeros : (Nat → Int64)) (t_ones : (Nat → Int64)) (t_alarms : (Nat → Int32)) (t_faults : (Nat → Int32)) {r : (Nat → Int64) × (Nat → Int64)} (hrun : fX3_turnAround t_zeros t_ones x1 = some r) : cV l D (tyL kI kJ kS) true yX3_turnAround wsX3_turnAround (rmk 1 0 0 20) [.ref to, .int x1] (wX3 kI kJ to ta t_inputs t_remembered t_asks t_hours t_zeros t_ones t_alarms t_faults) (wX3 kI kJ to ta t_inputs t_remembered t_asks t_hours r.1 r.2 t_alarms t_faults) := by
  refine cV_of (cc := cX3_turnAround) (maxL := 4) (by decide) rfl (Nat.le_of_ble_eq_true rfl) ?_
  intro p e s m av below meth c A Q ls hE hP hD hS hl hret
  have hE : ent_ p s m av meth c RX3 cX3_turnAround 4 none wsX3_turnAround (tyL kI kJ kS) D A true := hE
  obtain ⟨hx, hb, hml, hown, hts, hr, hlocks, hK, hA, hst⟩ := id hE
  have hl : lv_has ls 4 [(0, .ref to), (1, .int x1)] := hl
  obtain ⟨⟨⟨tW, hZ, hT⟩, hU1, hU2⟩, hnk⟩ := hst rfl
  unfold fX3_turnAround at hrun
  refine lv_iload_n hx hb dX3_turnAround_0 rfl (lv_at hl 1 rfl) ?_
  obtain ⟨q_1, hq_1, hrun⟩ := bd_some hrun
  refine cI_callSN (As := [.int x1]) (rest := []) (wr := (wX3 kI kJ to ta t_inputs t_remembered t_asks t_hours t_zeros t_ones t_alarms t_faults)) (wN := (wX3 kI kJ to ta t_inputs t_remembered t_asks t_hours t_zeros t_ones t_alarms t_faults)) hE (c_X6_isOutput l D kI kJ kS x1  hq_1) ⟨va_cnB 1 hts ggX3_turnAround_X6_isOutput rfl rfl rfl (nm_5 hnk) (hts _ mX3_turnAround_4) (by decide +kernel) ⟨Nat.le_of_ble_eq_true rfl, Nat.le_of_ble_eq_true rfl⟩, hts _ mX3_turnAround_3, trivial⟩ hP hD hS [] [0, 1, 2, 3, 4] [0, 1, 2, 3, 4] rfl rfl rfl rfl (by decide) rfl rfl rfl hl.1 rfl (Nat.le_of_ble_eq_true rfl) dX3_turnAround_1 ⟨Nat.le_of_ble_eq_true rfl, Nat.le_of_ble_eq_true rfl⟩ (fun H locs hP hD hS => ?_)
  refine lv_if_eq (tgt := 33) hx hb dX3_turnAround_4 (by decide) (fun hc => ?_) (fun hc => ?_)
  · have hrun := it_t hc hrun
    obtain rfl := Option.some.inj hrun
    exact hret _ _ _ _ dX3_turnAround_33 hP hD hS
  · have hrun := it_f hc hrun
    refine lv_aload_n hx hb dX3_turnAround_7 rfl (lv_at hl 0 rfl) ?_
    refine va_get (D := D) (ci := 2) (v := .ref (ta 1)) (C := RX3) (T := TX3) (N := 8) hx hb hts iX3_turnAround_X3 hown hK hP 0 rfl rfl 5 (by decide) (hts _ mX3_turnAround_1) (fun _ h9 => h9) rfl dX3_turnAround_8 ?_
    refine lv_iload_n hx hb dX3_turnAround_11 rfl (lv_at hl 1 rfl) ?_
    obtain ⟨hin, hrun⟩ := gd_some hrun
    refine va_lald hx hb hK hP 2 1 rfl rfl hin dX3_turnAround_12 ?_
    refine lv_lstore_n (lv' := [(2, .long (t_ones x1.toNatClampNeg)), (0, .ref to), (1, .int x1)]) hx hb dX3_turnAround_13 rfl hl (by decide) rfl (fun ls hl => ?_)
    refine lv_aload_n hx hb dX3_turnAround_14 rfl (lv_at hl 1 rfl) ?_
    refine va_get (D := D) (ci := 2) (v := .ref (ta 1)) (C := RX3) (T := TX3) (N := 8) hx hb hts iX3_turnAround_X3 hown hK hP 0 rfl rfl 5 (by decide) (hts _ mX3_turnAround_1) (fun _ h9 => h9) rfl dX3_turnAround_15 ?_
    refine lv_iload_n hx hb dX3_turnAround_18 rfl (lv_at hl 2 rfl) ?_
    refine lv_aload_n hx hb dX3_turnAround_19 rfl (lv_at hl 1 rfl) ?_
    refine va_get (D := D) (ci := 2) (v := .ref (ta 0)) (C := RX3) (T := TX3) (N := 8) hx hb hts iX3_turnAround_X3 hown hK hP 0 rfl rfl 4 (by decide) (hts _ mX3_turnAround_2) (fun _ h9 => h9) rfl dX3_turnAround_20 ?_
    refine lv_iload_n hx hb dX3_turnAround_23 rfl (lv_at hl 2 rfl) ?_
    obtain ⟨hin, hrun⟩ := gd_some hrun
    refine va_lald hx hb hK hP 1 1 rfl rfl hin dX3_turnAround_24 ?_
    obtain ⟨hin, hrun⟩ := gd_some hrun
    refine va_last hx hb hK hP hD hS 2 1 rfl rfl hin dX3_turnAround_25 (fun H locs hP hD hS => ?_)
    have hP : va_P D vwCl (wX3 kI kJ to ta t_inputs t_remembered t_asks t_hours t_zeros (vp_updL t_ones x1.toNatClampNeg (t_zeros x1.toNatClampNeg)) t_alarms t_faults) H := hP
    have hD : va_D A (wX3 kI kJ to ta t_inputs t_remembered t_asks t_hours t_zeros (vp_updL t_ones x1.toNatClampNeg (t_zeros x1.toNatClampNeg)) t_alarms t_faults) := hD
    refine lv_aload_n hx hb dX3_turnAround_26 rfl (lv_at hl 1 rfl) ?_
    refine va_get (D := D) (ci := 2) (v := .ref (ta 0)) (C := RX3) (T := TX3) (N := 8) hx hb hts iX3_turnAround_X3 hown hK hP 0 rfl rfl 4 (by decide) (hts _ mX3_turnAround_2) (fun _ h9 => h9) rfl dX3_turnAround_27 ?_
    refine lv_iload_n hx hb dX3_turnAround_30 rfl (lv_at hl 2 rfl) ?_
    refine lv_lload_n hx hb dX3_turnAround_31 rfl (lv_at hl 0 rfl) ?_
    obtain ⟨hin, hrun⟩ := gd_some hrun
    refine va_last hx hb hK hP hD hS 1 1 rfl rfl hin dX3_turnAround_32 (fun H locs hP hD hS => ?_)
    have hP : va_P D vwCl (wX3 kI kJ to ta t_inputs t_remembered t_asks t_hours (vp_updL t_zeros x1.toNatClampNeg (t_ones x1.toNatClampNeg)) (vp_updL t_ones x1.toNatClampNeg (t_zeros x1.toNatClampNeg)) t_alarms t_faults) H := hP
    have hD : va_D A (wX3 kI kJ to ta t_inputs t_remembered t_asks t_hours (vp_updL t_zeros x1.toNatClampNeg (t_ones x1.toNatClampNeg)) (vp_updL t_ones x1.toNatClampNeg (t_zeros x1.toNatClampNeg)) t_alarms t_faults) := hD
    obtain rfl := Option.some.inj hrun
    exact hret _ _ _ _ dX3_turnAround_33 hP hD hS
theorem mX3_takeIn_4 : Cond.initialized RX6 ∈ wsX3_takeIn := List.mem_of_getElem? (i := 4) rfl
theorem mX3_takeIn_3 : Cond.static yX6_isOutput ∈ wsX3_takeIn := List.mem_of_getElem? (i := 3) rfl
theorem mX3_takeIn_1 : Cond.fieldLink RX3 15 "GateMaze$State" "ones" "[J" ∈ wsX3_takeIn := List.mem_of_getElem? (i := 1) rfl
theorem mX3_takeIn_2 : Cond.fieldLink RX3 9 "GateMaze$State" "zeros" "[J" ∈ wsX3_takeIn := List.mem_of_getElem? (i := 2) rfl
theorem iX3_takeIn_X3 : ∀ w ∈ u_ws RX3 TX3 8, w ∈ wsX3_takeIn := fun w h => List.mem_cons_of_mem _ (List.mem_append_right _ h)
set_option maxHeartbeats 4000000 in
set_option maxRecDepth 100000 in
theorem c_X3_takeIn (l : Launch) (D : va_G) (kI kJ kS : ClassId) (to : Nat) (ta : Nat → Nat) (x1 : Int32) (x2 : Int32) (t_inputs : Int32) (t_remembered : Int32) (t_asks : Int32) (t_hours : Int32) (t_zeros : (Nat → Int64)) (t_ones : (Nat → Int64)) (t_alarms : (Nat → Int32)) (t_faults : (Nat → Int32)) {r : (Nat → Int64) × (Nat → Int64)} (hrun : fX3_takeIn t_zeros t_ones x1 x2 = some r) : cV l D (tyL kI kJ kS) true yX3_takeIn wsX3_takeIn (rmk 2 0 0 41) [.ref to, .int x1, .int x2] (wX3 kI kJ to ta t_inputs t_remembered t_asks t_hours t_zeros t_ones t_alarms t_faults) (wX3 kI kJ to ta t_inputs t_remembered t_asks t_hours r.1 r.2 t_alarms t_faults) := by
  refine cV_of (cc := cX3_takeIn) (maxL := 3) (by decide) rfl (Nat.le_of_ble_eq_true rfl) ?_
  intro p e s m av below meth c A Q ls hE hP hD hS hl hret
  have hE : ent_ p s m av meth c RX3 cX3_takeIn 3 none wsX3_takeIn (tyL kI kJ kS) D A true := hE
  obtain ⟨hx, hb, hml, hown, hts, hr, hlocks, hK, hA, hst⟩ := id hE
  have hl : lv_has ls 3 [(0, .ref to), (1, .int x1), (2, .int x2)] := hl
  obtain ⟨⟨⟨tW, hZ, hT⟩, hU1, hU2⟩, hnk⟩ := hst rfl
  unfold fX3_takeIn at hrun
  refine lv_iload_n hx hb dX3_takeIn_0 rfl (lv_at hl 1 rfl) ?_
  obtain ⟨q_1, hq_1, hrun⟩ := bd_some hrun
  refine cI_callSN (As := [.int x1]) (rest := []) (wr := (wX3 kI kJ to ta t_inputs t_remembered t_asks t_hours t_zeros t_ones t_alarms t_faults)) (wN := (wX3 kI kJ to ta t_inputs t_remembered t_asks t_hours t_zeros t_ones t_alarms t_faults)) hE (c_X6_isOutput l D kI kJ kS x1  hq_1) ⟨va_cnB 1 hts ggX3_takeIn_X6_isOutput rfl rfl rfl (nm_5 hnk) (hts _ mX3_takeIn_4) (by decide +kernel) ⟨Nat.le_of_ble_eq_true rfl, Nat.le_of_ble_eq_true rfl⟩, hts _ mX3_takeIn_3, trivial⟩ hP hD hS [] [0, 1, 2, 3, 4] [0, 1, 2, 3, 4] rfl rfl rfl rfl (by decide) rfl rfl rfl hl.1 rfl (Nat.le_of_ble_eq_true rfl) dX3_takeIn_1 ⟨Nat.le_of_ble_eq_true rfl, Nat.le_of_ble_eq_true rfl⟩ (fun H locs hP hD hS => ?_)
  refine lv_if_eq (tgt := 35) hx hb dX3_takeIn_4 (by decide) (fun hc => ?_) (fun hc => ?_)
  · have hrun := it_t hc hrun
    obtain rfl := Option.some.inj hrun
    exact hret _ _ _ _ dX3_takeIn_35 hP hD hS
  · have hrun := it_f hc hrun
    refine lv_aload_n hx hb dX3_takeIn_7 rfl (lv_at hl 0 rfl) ?_
    refine va_get (D := D) (ci := 2) (v := .ref (ta 1)) (C := RX3) (T := TX3) (N := 8) hx hb hts iX3_takeIn_X3 hown hK hP 0 rfl rfl 5 (by decide) (hts _ mX3_takeIn_1) (fun _ h9 => h9) rfl dX3_takeIn_8 ?_
    refine lv_iload_n hx hb dX3_takeIn_11 rfl (lv_at hl 1 rfl) ?_
    refine lv_dup2_11 hx hb dX3_takeIn_12 rfl rfl ?_
    obtain ⟨hin, hrun⟩ := gd_some hrun
    refine va_lald hx hb hK hP 2 1 rfl rfl hin dX3_takeIn_13 ?_
    refine lv_aload_n hx hb dX3_takeIn_14 rfl (lv_at hl 0 rfl) ?_
    refine lv_iload_n hx hb dX3_takeIn_15 rfl (lv_at hl 2 rfl) ?_
    obtain ⟨q_2, hq_2, hrun⟩ := bd_some hrun
    refine cL_callV (As := [.int x2]) (rest := [.long (t_ones x1.toNatClampNeg), .int x1, .ref (ta 1)]) (wr := []) (wN := (wX3 kI kJ to ta t_inputs t_remembered t_asks t_hours t_zeros t_ones t_alarms t_faults)) (ci := 2) (q0 := 0) hE (c_X3_onesOf l D kI kJ kS to ta x2 t_inputs t_remembered t_asks t_hours t_zeros t_ones t_alarms t_faults hq_2) (cwV 1 hts gX3_takeIn_X3_onesOf rfl rfl rfl (by decide +kernel) ⟨Nat.le_of_ble_eq_true rfl, Nat.le_of_ble_eq_true rfl⟩) hP hD hS [0, 1, 2, 3, 4] [] [0, 1, 2, 3, 4] rfl rfl rfl rfl (by decide) rfl rfl rfl rfl rfl hl.1 rfl (Nat.le_of_ble_eq_true rfl) dX3_takeIn_16 ⟨Nat.le_of_ble_eq_true rfl, Nat.le_of_ble_eq_true rfl⟩ (fun H locs hP hD hS => ?_)
    refine lv_lor hx hb dX3_takeIn_19 ?_
    obtain ⟨hin, hrun⟩ := gd_some hrun
    refine va_last hx hb hK hP hD hS 2 1 rfl rfl hin dX3_takeIn_20 (fun H locs hP hD hS => ?_)
    have hP : va_P D vwCl (wX3 kI kJ to ta t_inputs t_remembered t_asks t_hours t_zeros (vp_updL t_ones x1.toNatClampNeg ((t_ones x1.toNatClampNeg) ||| q_2)) t_alarms t_faults) H := hP
    have hD : va_D A (wX3 kI kJ to ta t_inputs t_remembered t_asks t_hours t_zeros (vp_updL t_ones x1.toNatClampNeg ((t_ones x1.toNatClampNeg) ||| q_2)) t_alarms t_faults) := hD
    obtain ⟨u_3, eu_3⟩ : ∃ y, y = vp_updL t_ones x1.toNatClampNeg ((t_ones x1.toNatClampNeg) ||| q_2) := ⟨_, rfl⟩
    have hrun := lt_some eu_3 hrun
    rw [← eu_3] at hP hD
    refine lv_aload_n hx hb dX3_takeIn_21 rfl (lv_at hl 0 rfl) ?_
    refine va_get (D := D) (ci := 2) (v := .ref (ta 0)) (C := RX3) (T := TX3) (N := 8) hx hb hts iX3_takeIn_X3 hown hK hP 0 rfl rfl 4 (by decide) (hts _ mX3_takeIn_2) (fun _ h9 => h9) rfl dX3_takeIn_22 ?_
    refine lv_iload_n hx hb dX3_takeIn_25 rfl (lv_at hl 1 rfl) ?_
    refine lv_dup2_11 hx hb dX3_takeIn_26 rfl rfl ?_
    obtain ⟨hin, hrun⟩ := gd_some hrun
    refine va_lald hx hb hK hP 1 1 rfl rfl hin dX3_takeIn_27 ?_
    refine lv_aload_n hx hb dX3_takeIn_28 rfl (lv_at hl 0 rfl) ?_
    refine lv_iload_n hx hb dX3_takeIn_29 rfl (lv_at hl 2 rfl) ?_
    obtain ⟨q_4, hq_4, hrun⟩ := bd_some hrun
    refine cL_callV (As := [.int x2]) (rest := [.long (t_zeros x1.toNatClampNeg), .int x1, .ref (ta 0)]) (wr := []) (wN := (wX3 kI kJ to ta t_inputs t_remembered t_asks t_hours t_zeros u_3 t_alarms t_faults)) (ci := 2) (q0 := 0) hE (c_X3_zerosOf l D kI kJ kS to ta x2 t_inputs t_remembered t_asks t_hours t_zeros u_3 t_alarms t_faults hq_4) (cwV 1 hts gX3_takeIn_X3_zerosOf rfl rfl rfl (by decide +kernel) ⟨Nat.le_of_ble_eq_true rfl, Nat.le_of_ble_eq_true rfl⟩) hP hD hS [0, 1, 2, 3, 4] [] [0, 1, 2, 3, 4] rfl rfl rfl rfl (by decide) rfl rfl rfl rfl rfl hl.1 rfl (Nat.le_of_ble_eq_true rfl) dX3_takeIn_30 ⟨Nat.le_of_ble_eq_true rfl, Nat.le_of_ble_eq_true rfl⟩ (fun H locs hP hD hS => ?_)
    refine lv_land hx hb dX3_takeIn_33 ?_
    obtain ⟨hin, hrun⟩ := gd_some hrun
    refine va_last hx hb hK hP hD hS 1 1 rfl rfl hin dX3_takeIn_34 (fun H locs hP hD hS => ?_)
    have hP : va_P D vwCl (wX3 kI kJ to ta t_inputs t_remembered t_asks t_hours (vp_updL t_zeros x1.toNatClampNeg ((t_zeros x1.toNatClampNeg) &&& q_4)) u_3 t_alarms t_faults) H := hP
    have hD : va_D A (wX3 kI kJ to ta t_inputs t_remembered t_asks t_hours (vp_updL t_zeros x1.toNatClampNeg ((t_zeros x1.toNatClampNeg) &&& q_4)) u_3 t_alarms t_faults) := hD
    obtain ⟨u_5, eu_5⟩ : ∃ y, y = vp_updL t_zeros x1.toNatClampNeg ((t_zeros x1.toNatClampNeg) &&& q_4) := ⟨_, rfl⟩
    have hrun := lt_some eu_5 hrun
    rw [← eu_5] at hP hD
    obtain rfl := Option.some.inj hrun
    exact hret _ _ _ _ dX3_takeIn_35 hP hD hS
