/-! ===== X7_at ===== -/
theorem mX7_at_1 : Cond.fieldLink RX7 38 "GateMazeModel" "thrown" "I" ∈ wsX7_at := List.mem_of_getElem? (i := 1) rfl
theorem iX7_at_X7 : ∀ w ∈ u_ws RX7 TX7 16, w ∈ wsX7_at := fun w h => List.mem_cons_of_mem _ (List.mem_append_right _ h)
set_option maxHeartbeats 4000000 in
set_option maxRecDepth 100000 in
theorem c_X7_at (l : Launch) (D : va_G) (kI kJ kS : ClassId) (to : Nat) (ta : Nat → Nat) (x1 : Int32) (x2 : Int32) (x3 : Int32) (z : (Nat → Int32)) (nst : Int32) (his : (Nat → Int32)) (len : Int32) (txt : (Nat → Int32)) (thr : Int32) (god : (Nat → Int64)) (prm : (Nat → Int32)) (npr : Int32) (cov : (Nat → Int32)) (siz : (Nat → Int32)) (pts : (Nat → Int32)) (rea : Int32) (pla : Int32) (bef : (Nat → Int32)) (has : Int64) {r : Int32 × Int32 × (Nat → Int64) × (Nat → Int32) × Int32 × (Nat → Int32) × (Nat → Int32)} (hrun : fX7_at z god prm npr cov siz x1 x2 x3 = some r) : cI l D (tyL kI kJ kS) false yX7_at wsX7_at (rmk 5 0 0 119) [.ref to, .int x1, .int x2, .int x3] (wX7 kI kJ to ta z nst his len txt thr god prm npr cov siz pts rea pla bef has) (wX7 kI kJ to ta z nst his len txt r.2.1 r.2.2.1 r.2.2.2.1 r.2.2.2.2.1 r.2.2.2.2.2.1 r.2.2.2.2.2.2 pts rea pla bef has) r.1 := by
  refine cI_of (cc := cX7_at) (maxL := 4) (by decide) rfl (Nat.le_of_ble_eq_true rfl) ?_
  intro p e s m av below meth c A Q ls hE hP hD hS hl hret
  have hE : ent_ p s m av meth c RX7 cX7_at 4 (some .int) wsX7_at (tyL kI kJ kS) D A false := hE
  obtain ⟨hx, hb, hml, hown, hts, hr, hlocks, hK, hA, hst⟩ := id hE
  have hl : lv_has ls 4 [(0, .ref to), (1, .int x1), (2, .int x2), (3, .int x3)] := hl
  have c_J34 : ∀ (x1 : Int32) (x2 : Int32) (x3 : Int32) (s0 : Int32) (god : (Nat → Int64)) (prm : (Nat → Int32)) (npr : Int32) (cov : (Nat → Int32)) (siz : (Nat → Int32)) (thr : Int32), fX7_at_J34 x1 x2 x3 s0 z god prm npr cov siz = some r → wAt p l e (rmk 5 0 0 119) s m av below meth c D A 4 0 0 Q 34 [.int s0, .ref to] [(0, .ref to), (1, .int x1), (2, .int x2), (3, .int x3)] (wX7 kI kJ to ta z nst his len txt thr god prm npr cov siz pts rea pla bef has) := by
    intro x1 x2 x3 s0 god prm npr cov siz thr hrun H locs ls hP hD hS hl
    unfold fX7_at_J34 at hrun
    refine va_put (D := D) (ci := 6) (v := .int s0) (ty := .int) (C := RX7) (T := TX7) (N := 16) hx hb hts iX7_at_X7 tyX7 tyX7_ok nmX7 hown hK hP hD hS 0 rfl rfl 5 (by decide) (hts _ mX7_at_1) (fun _ h9 => h9) rfl (by decide +kernel) rfl rfl (Nat.le_of_ble_eq_true rfl) dX7_at_34 (fun H locs hP hD hS => ?_)
    have hP : va_P D vwCl (wX7 kI kJ to ta z nst his len txt s0 god prm npr cov siz pts rea pla bef has) H := hP
    have hD : va_D A (wX7 kI kJ to ta z nst his len txt s0 god prm npr cov siz pts rea pla bef has) := hD
    refine lv_aload_n hx hb dX7_at_37 rfl (lv_at hl 0 rfl) ?_
    refine va_get (D := D) (ci := 6) (v := .int s0) (C := RX7) (T := TX7) (N := 16) hx hb hts iX7_at_X7 hown hK hP 0 rfl rfl 5 (by decide) (hts _ mX7_at_1) (fun _ h9 => h9) rfl dX7_at_38 ?_
    refine lv_if_le (tgt := 46) hx hb dX7_at_41 (by decide) (fun hc => ?_) (fun hc => ?_)
    · have hrun := it_t hc hrun
      refine lv_aload_n hx hb dX7_at_46 rfl (lv_at hl 0 rfl) ?_
      refine lv_iload_n hx hb dX7_at_47 rfl (lv_at hl 1 rfl) ?_
      obtain ⟨q_1, hq_1, hrun⟩ := bd_some hrun
      refine cV_callV (As := [.int x1]) (rest := []) (wr := []) (wN := (wX7 kI kJ to ta z nst his len txt s0 q_1.1 q_1.2.1 q_1.2.2.1 q_1.2.2.2.1 q_1.2.2.2.2 pts rea pla bef has)) (ci := 6) (q0 := 0) hE (c_X7_layCover l D kI kJ kS to ta x1 z nst his len txt s0 god prm npr cov siz pts rea pla bef has hq_1) (cwV 1 hts gX7_at_X7_layCover rfl rfl rfl (by decide +kernel) ⟨Nat.le_of_ble_eq_true rfl, Nat.le_of_ble_eq_true rfl⟩) hP hD hS [0, 1, 2, 3, 4, 5, 6, 7, 8, 9] [] [0, 1, 2, 3, 4, 5, 6, 7, 8, 9] rfl rfl rfl rfl (by decide) rfl rfl rfl rfl rfl hl.1 rfl (Nat.le_of_ble_eq_true rfl) dX7_at_48 ⟨Nat.le_of_ble_eq_true rfl, Nat.le_of_ble_eq_true rfl⟩ (fun H locs hP hD hS => ?_)
      refine lv_aload_n hx hb dX7_at_51 rfl (lv_at hl 0 rfl) ?_
      refine lv_iload_n hx hb dX7_at_52 rfl (lv_at hl 1 rfl) ?_
      refine lv_iload_n hx hb dX7_at_53 rfl (lv_at hl 2 rfl) ?_
      refine lv_iload_n hx hb dX7_at_54 rfl (lv_at hl 3 rfl) ?_
      obtain ⟨q_2, hq_2, hrun⟩ := bd_some hrun
      refine cI_callV (As := [.int x1, .int x2, .int x3]) (rest := []) (wr := []) (wN := (wX7 kI kJ to ta z nst his len txt s0 q_1.1 q_1.2.1 q_1.2.2.1 q_1.2.2.2.1 q_1.2.2.2.2 pts rea pla bef has)) (ci := 6) (q0 := 0) hE (c_X7_atNow l D kI kJ kS to ta x1 x2 x3 z nst his len txt s0 q_1.1 q_1.2.1 q_1.2.2.1 q_1.2.2.2.1 q_1.2.2.2.2 pts rea pla bef has hq_2) (cwV 3 hts gX7_at_X7_atNow rfl rfl rfl (by decide +kernel) ⟨Nat.le_of_ble_eq_true rfl, Nat.le_of_ble_eq_true rfl⟩) hP hD hS [0, 1, 2, 3, 4, 5, 6, 7, 8, 9] [] [0, 1, 2, 3, 4, 5, 6, 7, 8, 9] rfl rfl rfl rfl (by decide) rfl rfl rfl rfl rfl hl.1 rfl (Nat.le_of_ble_eq_true rfl) dX7_at_55 ⟨Nat.le_of_ble_eq_true rfl, Nat.le_of_ble_eq_true rfl⟩ (fun H locs hP hD hS => ?_)
      obtain rfl := Option.some.inj hrun
      exact hret _ _ _ _ rfl dX7_at_58 hP hD hS
    · have hrun := it_f hc hrun
      refine lv_iconst (v := 0) hx hb dX7_at_44 (by decide) ?_
      obtain rfl := Option.some.inj hrun
      exact hret _ _ _ _ rfl dX7_at_45 hP hD hS
  have c_J16 : ∀ (x1 : Int32) (x2 : Int32) (x3 : Int32) (god : (Nat → Int64)) (prm : (Nat → Int32)) (npr : Int32) (cov : (Nat → Int32)) (siz : (Nat → Int32)) (thr : Int32), fX7_at_J16 x1 x2 x3 z god prm npr cov siz = some r → wAt p l e (rmk 5 0 0 119) s m av below meth c D A 4 0 0 Q 16 [.ref to] [(0, .ref to), (1, .int x1), (2, .int x2), (3, .int x3)] (wX7 kI kJ to ta z nst his len txt thr god prm npr cov siz pts rea pla bef has) := by
    intro x1 x2 x3 god prm npr cov siz thr hrun H locs ls hP hD hS hl
    unfold fX7_at_J16 at hrun
    refine lv_iconst (v := 1) hx hb dX7_at_16 (by decide) ?_
    refine lv_goto (tgt := 34) hx hb dX7_at_17 (by decide) ?_
    exact c_J34 x1 x2 x3 1 god prm npr cov siz thr hrun _ _ _ hP hD hS (lv_sub hl [0, 1, 2, 3] rfl)
  unfold fX7_at at hrun
  refine lv_aload_n hx hb dX7_at_0 rfl (lv_at hl 0 rfl) ?_
  refine lv_iload_n hx hb dX7_at_1 rfl (lv_at hl 1 rfl) ?_
  obtain ⟨q_3, hq_3, hrun⟩ := bd_some hrun
  refine cI_callS (As := [.int x1]) (rest := [.ref to]) (wr := (wX7 kI kJ to ta z nst his len txt thr god prm npr cov siz pts rea pla bef has)) (wN := (wX7 kI kJ to ta z nst his len txt thr god prm npr cov siz pts rea pla bef has)) hE (c_X7_isOutput l D kI kJ kS x1  hq_3) (va_cwS 1 hts gX7_at_X7_isOutput rfl rfl rfl (by decide +kernel) ⟨Nat.le_of_ble_eq_true rfl, Nat.le_of_ble_eq_true rfl⟩) hP hD hS [] [0, 1, 2, 3, 4, 5, 6, 7, 8, 9] [0, 1, 2, 3, 4, 5, 6, 7, 8, 9] rfl rfl rfl rfl (by decide) rfl rfl rfl hl.1 rfl (Nat.le_of_ble_eq_true rfl) dX7_at_2 ⟨Nat.le_of_ble_eq_true rfl, Nat.le_of_ble_eq_true rfl⟩ (fun H locs hP hD hS => ?_)
  refine lv_if_eq (tgt := 16) hx hb dX7_at_5 (by decide) (fun hc => ?_) (fun hc => ?_)
  · have hrun := it_t hc hrun
    exact c_J16 x1 x2 x3 god prm npr cov siz thr hrun _ _ _ hP hD hS (lv_sub hl [0, 1, 2, 3] rfl)
  · have hrun := it_f hc hrun
    refine lv_aload_n hx hb dX7_at_8 rfl (lv_at hl 0 rfl) ?_
    refine lv_iload_n hx hb dX7_at_9 rfl (lv_at hl 2 rfl) ?_
    obtain ⟨q_4, hq_4, hrun⟩ := bd_some hrun
    refine cI_callV (As := [.int x2]) (rest := [.ref to]) (wr := []) (wN := (wX7 kI kJ to ta z nst his len txt thr god prm npr cov siz pts rea pla bef has)) (ci := 6) (q0 := 0) hE (c_X7_isRow l D kI kJ kS to ta x2 z nst his len txt thr god prm npr cov siz pts rea pla bef has hq_4) (cwV 1 hts gX7_at_X7_isRow rfl rfl rfl (by decide +kernel) ⟨Nat.le_of_ble_eq_true rfl, Nat.le_of_ble_eq_true rfl⟩) hP hD hS [0, 1, 2, 3, 4, 5, 6, 7, 8, 9] [] [0, 1, 2, 3, 4, 5, 6, 7, 8, 9] rfl rfl rfl rfl (by decide) rfl rfl rfl rfl rfl hl.1 rfl (Nat.le_of_ble_eq_true rfl) dX7_at_10 ⟨Nat.le_of_ble_eq_true rfl, Nat.le_of_ble_eq_true rfl⟩ (fun H locs hP hD hS => ?_)
    refine lv_if_ne (tgt := 20) hx hb dX7_at_13 (by decide) (fun hc => ?_) (fun hc => ?_)
    · have hrun := it_f hc hrun
      refine lv_iload_n hx hb dX7_at_20 rfl (lv_at hl 3 rfl) ?_
      refine lv_iconst (v := 0) hx hb dX7_at_21 (by decide) ?_
      refine lv_iconst (v := 2) hx hb dX7_at_22 (by decide) ?_
      obtain ⟨q_5, hq_5, hrun⟩ := bd_some hrun
      refine cI_callS (As := [.int x3, .int 0, .int 2]) (rest := [.ref to]) (wr := (wX7 kI kJ to ta z nst his len txt thr god prm npr cov siz pts rea pla bef has)) (wN := (wX7 kI kJ to ta z nst his len txt thr god prm npr cov siz pts rea pla bef has)) hE (c_X7_within l D kI kJ kS x3 0 2  hq_5) (va_cwS 3 hts gX7_at_X7_within rfl rfl rfl (by decide +kernel) ⟨Nat.le_of_ble_eq_true rfl, Nat.le_of_ble_eq_true rfl⟩) hP hD hS [] [0, 1, 2, 3, 4, 5, 6, 7, 8, 9] [0, 1, 2, 3, 4, 5, 6, 7, 8, 9] rfl rfl rfl rfl (by decide) rfl rfl rfl hl.1 rfl (Nat.le_of_ble_eq_true rfl) dX7_at_23 ⟨Nat.le_of_ble_eq_true rfl, Nat.le_of_ble_eq_true rfl⟩ (fun H locs hP hD hS => ?_)
      refine lv_if_eq (tgt := 33) hx hb dX7_at_26 (by decide) (fun hc => ?_) (fun hc => ?_)
      · have hrun := it_t hc hrun
        refine lv_iconst (v := 2) hx hb dX7_at_33 (by decide) ?_
        exact c_J34 x1 x2 x3 2 god prm npr cov siz thr hrun _ _ _ hP hD hS (lv_sub hl [0, 1, 2, 3] rfl)
      · have hrun := it_f hc hrun
        refine lv_iconst (v := 0) hx hb dX7_at_29 (by decide) ?_
        refine lv_goto (tgt := 34) hx hb dX7_at_30 (by decide) ?_
        exact c_J34 x1 x2 x3 0 god prm npr cov siz thr hrun _ _ _ hP hD hS (lv_sub hl [0, 1, 2, 3] rfl)
    · have hrun := it_t hc hrun
      exact c_J16 x1 x2 x3 god prm npr cov siz thr hrun _ _ _ hP hD hS (lv_sub hl [0, 1, 2, 3] rfl)
/-! ===== X7_coverOf ===== -/
theorem mX7_coverOf_1 : Cond.fieldLink RX7 29 "GateMazeModel" "sizes" "[I" ∈ wsX7_coverOf := List.mem_of_getElem? (i := 1) rfl
theorem mX7_coverOf_2 : Cond.fieldLink RX7 26 "GateMazeModel" "covers" "[I" ∈ wsX7_coverOf := List.mem_of_getElem? (i := 2) rfl
theorem iX7_coverOf_X7 : ∀ w ∈ u_ws RX7 TX7 16, w ∈ wsX7_coverOf := fun w h => List.mem_cons_of_mem _ (List.mem_append_right _ h)
set_option maxHeartbeats 4000000 in
set_option maxRecDepth 100000 in
theorem c_X7_coverOf (l : Launch) (D : va_G) (kI kJ kS : ClassId) (to : Nat) (ta : Nat → Nat) (x1 : Int32) (x2 : Int32) (z : (Nat → Int32)) (nst : Int32) (his : (Nat → Int32)) (len : Int32) (txt : (Nat → Int32)) (thr : Int32) (god : (Nat → Int64)) (prm : (Nat → Int32)) (npr : Int32) (cov : (Nat → Int32)) (siz : (Nat → Int32)) (pts : (Nat → Int32)) (rea : Int32) (pla : Int32) (bef : (Nat → Int32)) (has : Int64) {r : Int32} (hrun : fX7_coverOf cov siz x1 x2 = some r) : cI l D (tyL kI kJ kS) false yX7_coverOf wsX7_coverOf (rmk 1 0 0 22) [.ref to, .int x1, .int x2] (wX7 kI kJ to ta z nst his len txt thr god prm npr cov siz pts rea pla bef has) (wX7 kI kJ to ta z nst his len txt thr god prm npr cov siz pts rea pla bef has) r := by
  refine cI_of (cc := cX7_coverOf) (maxL := 7) (by decide) rfl (Nat.le_of_ble_eq_true rfl) ?_
  intro p e s m av below meth c A Q ls hE hP hD hS hl hret
  have hE : ent_ p s m av meth c RX7 cX7_coverOf 7 (some .int) wsX7_coverOf (tyL kI kJ kS) D A false := hE
  obtain ⟨hx, hb, hml, hown, hts, hr, hlocks, hK, hA, hst⟩ := id hE
  have hl : lv_has ls 7 [(0, .ref to), (1, .int x1), (2, .int x2)] := hl
  have c_J57 : ∀ (x1 : Int32) (x2 : Int32) (x3 : Int32) (x4 : Int32), fX7_coverOf_J57 x1 x2 x3 x4 siz = some r → wAt p l e (rmk 1 0 0 22) s m av below meth c D A 7 0 0 Q 57 [] [(0, .ref to), (1, .int x1), (2, .int x2), (3, .int x3), (4, .int x4)] (wX7 kI kJ to ta z nst his len txt thr god prm npr cov siz pts rea pla bef has) := by
    intro x1 x2 x3 x4 hrun H locs ls hP hD hS hl
    unfold fX7_coverOf_J57 at hrun
    refine lv_iload_n hx hb dX7_coverOf_57 rfl (lv_at hl 2 rfl) ?_
    refine lv_bipush (v := 6) hx hb dX7_coverOf_58 (by decide) ?_
    refine lv_icmp_ne (tgt := 72) hx hb dX7_coverOf_60 (by decide) (fun hc => ?_) (fun hc => ?_)
    · have hrun := it_f hc hrun
      refine lv_iload_n hx hb dX7_coverOf_72 rfl (lv_at hl 2 rfl) ?_
      refine lv_bipush (v := 7) hx hb dX7_coverOf_73 (by decide) ?_
      refine lv_icmp_ne (tgt := 82) hx hb dX7_coverOf_75 (by decide) (fun hc => ?_) (fun hc => ?_)
      · have hrun := it_f hc hrun
        refine lv_iload hx hb dX7_coverOf_82 (lv_at hl 4 rfl) ?_
        obtain rfl := Option.some.inj hrun
        exact hret _ _ _ _ rfl dX7_coverOf_84 hP hD hS
      · have hrun := it_t hc hrun
        refine lv_iload_n hx hb dX7_coverOf_78 rfl (lv_at hl 3 rfl) ?_
        refine lv_goto (tgt := 84) hx hb dX7_coverOf_79 (by decide) ?_
        obtain rfl := Option.some.inj hrun
        exact hret _ _ _ _ rfl dX7_coverOf_84 hP hD hS
    · have hrun := it_t hc hrun
      refine lv_aload_n hx hb dX7_coverOf_63 rfl (lv_at hl 0 rfl) ?_
      refine va_get (D := D) (ci := 6) (v := .ref (ta 6)) (C := RX7) (T := TX7) (N := 16) hx hb hts iX7_coverOf_X7 hown hK hP 0 rfl rfl 10 (by decide) (hts _ mX7_coverOf_1) (fun _ h9 => h9) rfl dX7_coverOf_64 ?_
      refine lv_iload_n hx hb dX7_coverOf_67 rfl (lv_at hl 1 rfl) ?_
      obtain ⟨hin, hrun⟩ := gd_some hrun
      refine va_iald hx hb hK hP 7 0 rfl rfl hin dX7_coverOf_68 ?_
      refine lv_goto (tgt := 84) hx hb dX7_coverOf_69 (by decide) ?_
      obtain rfl := Option.some.inj hrun
      exact hret _ _ _ _ rfl dX7_coverOf_84 hP hD hS
  have c_L8 : ∀ (x1 : Int32) (x2 : Int32) (n : Nat) (x3 : Int32) (x4 : Int32) (x5 : Int32), fX7_coverOf_L8 x1 x2 cov siz n x3 x4 x5 = some r → wAt p l e (rmk 1 0 0 22) s m av below meth c D A 7 0 0 Q 8 [] [(0, .ref to), (1, .int x1), (2, .int x2), (3, .int x3), (4, .int x4), (5, .int x5)] (wX7 kI kJ to ta z nst his len txt thr god prm npr cov siz pts rea pla bef has) := by
    intro x1 x2 n
    induction n with
    | zero =>
      intro x3 x4 x5 hrun
      rw [fX7_coverOf_L8] at hrun
      cases hrun
    | succ n ih =>
      intro x3 x4 x5 hrun H locs ls hP hD hS hl
      rw [fX7_coverOf_L8] at hrun
      refine lv_iload hx hb dX7_coverOf_8 (lv_at hl 5 rfl) ?_
      refine lv_aload_n hx hb dX7_coverOf_10 rfl (lv_at hl 0 rfl) ?_
      refine va_get (D := D) (ci := 6) (v := .ref (ta 6)) (C := RX7) (T := TX7) (N := 16) hx hb hts iX7_coverOf_X7 hown hK hP 0 rfl rfl 10 (by decide) (hts _ mX7_coverOf_1) (fun _ h9 => h9) rfl dX7_coverOf_11 ?_
      refine lv_iload_n hx hb dX7_coverOf_14 rfl (lv_at hl 1 rfl) ?_
      obtain ⟨hin, hrun⟩ := gd_some hrun
      refine va_iald hx hb hK hP 7 0 rfl rfl hin dX7_coverOf_15 ?_
      refine lv_icmp_ge (tgt := 57) hx hb dX7_coverOf_16 (by decide) (fun hc => ?_) (fun hc => ?_)
      · have hrun := it_t hc hrun
        exact c_J57 x1 x2 x3 x4  hrun _ _ _ hP hD hS (lv_sub hl [0, 1, 2, 3, 4] rfl)
      · have hrun := it_f hc hrun
        refine lv_aload_n hx hb dX7_coverOf_19 rfl (lv_at hl 0 rfl) ?_
        refine va_get (D := D) (ci := 6) (v := .ref (ta 5)) (C := RX7) (T := TX7) (N := 16) hx hb hts iX7_coverOf_X7 hown hK hP 0 rfl rfl 9 (by decide) (hts _ mX7_coverOf_2) (fun _ h9 => h9) rfl dX7_coverOf_20 ?_
        refine lv_bipush (v := 64) hx hb dX7_coverOf_23 (by decide) ?_
        refine lv_iload_n hx hb dX7_coverOf_25 rfl (lv_at hl 1 rfl) ?_
        refine lv_imul hx hb dX7_coverOf_26 ?_
        refine lv_iload hx hb dX7_coverOf_27 (lv_at hl 5 rfl) ?_
        refine lv_iadd hx hb dX7_coverOf_29 ?_
        obtain ⟨hin, hrun⟩ := gd_some hrun
        refine va_iald hx hb hK hP 6 0 rfl rfl hin dX7_coverOf_30 ?_
        refine lv_bipush (v := 64) hx hb dX7_coverOf_31 (by decide) ?_
        refine lv_idiv hx hb dX7_coverOf_33 (by decide) ?_
        refine lv_istore (lv' := [(6, .int ((cov ((64 * x1) + x5).toNatClampNeg) / 64)), (0, .ref to), (1, .int x1), (2, .int x2), (3, .int x3), (4, .int x4), (5, .int x5)]) hx hb dX7_coverOf_34 hl (by decide) rfl (fun ls hl => ?_)
        refine lv_iload_n hx hb dX7_coverOf_36 rfl (lv_at hl 4 rfl) ?_
        refine lv_iload hx hb dX7_coverOf_37 (lv_at hl 0 rfl) ?_
        obtain ⟨q_1, hq_1, hrun⟩ := bd_some hrun
        refine cI_callS (As := [.int ((cov ((64 * x1) + x5).toNatClampNeg) / 64)]) (rest := [.int x3]) (wr := (wX7 kI kJ to ta z nst his len txt thr god prm npr cov siz pts rea pla bef has)) (wN := (wX7 kI kJ to ta z nst his len txt thr god prm npr cov siz pts rea pla bef has)) hE (c_X7_ones l D kI kJ kS ((cov ((64 * x1) + x5).toNatClampNeg) / 64)  hq_1) (va_cwS 1 hts gX7_coverOf_X7_ones rfl rfl rfl (by decide +kernel) ⟨Nat.le_of_ble_eq_true rfl, Nat.le_of_ble_eq_true rfl⟩) hP hD hS [] [0, 1, 2, 3, 4, 5, 6, 7, 8, 9] [0, 1, 2, 3, 4, 5, 6, 7, 8, 9] rfl rfl rfl rfl (by decide) rfl rfl rfl hl.1 rfl (Nat.le_of_ble_eq_true rfl) dX7_coverOf_39 ⟨Nat.le_of_ble_eq_true rfl, Nat.le_of_ble_eq_true rfl⟩ (fun H locs hP hD hS => ?_)
        refine lv_iadd hx hb dX7_coverOf_42 ?_
        refine lv_istore_n (lv' := [(3, .int (x3 + q_1)), (6, .int ((cov ((64 * x1) + x5).toNatClampNeg) / 64)), (0, .ref to), (1, .int x1), (2, .int x2), (4, .int x4), (5, .int x5)]) hx hb dX7_coverOf_43 rfl hl (by decide) rfl (fun ls hl => ?_)
        refine lv_iload hx hb dX7_coverOf_44 (lv_at hl 5 rfl) ?_
        refine lv_iload hx hb dX7_coverOf_46 (lv_at hl 1 rfl) ?_
        refine lv_ior hx hb dX7_coverOf_48 ?_
        refine lv_istore (lv' := [(4, .int (x4 ||| ((cov ((64 * x1) + x5).toNatClampNeg) / 64))), (3, .int (x3 + q_1)), (6, .int ((cov ((64 * x1) + x5).toNatClampNeg) / 64)), (0, .ref to), (1, .int x1), (2, .int x2), (5, .int x5)]) hx hb dX7_coverOf_49 hl (by decide) rfl (fun ls hl => ?_)
        refine lv_iinc (v := x5 + 1) (lv' := [(5, .int (x5 + 1)), (4, .int (x4 ||| ((cov ((64 * x1) + x5).toNatClampNeg) / 64))), (3, .int (x3 + q_1)), (6, .int ((cov ((64 * x1) + x5).toNatClampNeg) / 64)), (0, .ref to), (1, .int x1), (2, .int x2)]) hx hb dX7_coverOf_51 hl (k := 6) rfl rfl (by decide) rfl (fun ls hl => ?_)
        refine lv_goto (tgt := 8) hx hb dX7_coverOf_54 (by decide) ?_
        exact ih (x3 + q_1) (x4 ||| ((cov ((64 * x1) + x5).toNatClampNeg) / 64)) (x5 + 1)  hrun _ _ _ hP hD hS (lv_sub hl [4, 5, 6, 2, 1, 0] rfl)
  unfold fX7_coverOf at hrun
  refine lv_iconst (v := 0) hx hb dX7_coverOf_0 (by decide) ?_
  refine lv_istore_n (lv' := [(3, .int 0), (0, .ref to), (1, .int x1), (2, .int x2)]) hx hb dX7_coverOf_1 rfl hl (by decide) rfl (fun ls hl => ?_)
  refine lv_iconst (v := 0) hx hb dX7_coverOf_2 (by decide) ?_
  refine lv_istore (lv' := [(4, .int 0), (3, .int 0), (0, .ref to), (1, .int x1), (2, .int x2)]) hx hb dX7_coverOf_3 hl (by decide) rfl (fun ls hl => ?_)
  refine lv_iconst (v := 0) hx hb dX7_coverOf_5 (by decide) ?_
  refine lv_istore (lv' := [(5, .int 0), (4, .int 0), (3, .int 0), (0, .ref to), (1, .int x1), (2, .int x2)]) hx hb dX7_coverOf_6 hl (by decide) rfl (fun ls hl => ?_)
  exact c_L8 x1 x2 5000 0 0 0  hrun _ _ _ hP hD hS (lv_sub hl [3, 4, 5, 2, 1, 0] rfl)
/-! ===== X7_outputNow ===== -/
theorem mX7_outputNow_1 : Cond.fieldLink RX7 75 "GateMazeModel" "primes" "I" ∈ wsX7_outputNow := List.mem_of_getElem? (i := 1) rfl
theorem mX7_outputNow_2 : Cond.fieldLink RX7 7 "GateMazeModel" "z" "[I" ∈ wsX7_outputNow := List.mem_of_getElem? (i := 2) rfl
theorem iX7_outputNow_X7 : ∀ w ∈ u_ws RX7 TX7 16, w ∈ wsX7_outputNow := fun w h => List.mem_cons_of_mem _ (List.mem_append_right _ h)
set_option maxHeartbeats 4000000 in
set_option maxRecDepth 100000 in
theorem c_X7_outputNow (l : Launch) (D : va_G) (kI kJ kS : ClassId) (to : Nat) (ta : Nat → Nat) (x1 : Int32) (x2 : Int32) (z : (Nat → Int32)) (nst : Int32) (his : (Nat → Int32)) (len : Int32) (txt : (Nat → Int32)) (thr : Int32) (god : (Nat → Int64)) (prm : (Nat → Int32)) (npr : Int32) (cov : (Nat → Int32)) (siz : (Nat → Int32)) (pts : (Nat → Int32)) (rea : Int32) (pla : Int32) (bef : (Nat → Int32)) (has : Int64) {r : Int32 × (Nat → Int64) × (Nat → Int32) × Int32} (hrun : fX7_outputNow z god prm npr cov siz x1 x2 = some r) : cI l D (tyL kI kJ kS) false yX7_outputNow wsX7_outputNow (rmk 4 0 0 95) [.ref to, .int x1, .int x2] (wX7 kI kJ to ta z nst his len txt thr god prm npr cov siz pts rea pla bef has) (wX7 kI kJ to ta z nst his len txt thr r.2.1 r.2.2.1 r.2.2.2 cov siz pts rea pla bef has) r.1 := by
  refine cI_of (cc := cX7_outputNow) (maxL := 3) (by decide) rfl (Nat.le_of_ble_eq_true rfl) ?_
  intro p e s m av below meth c A Q ls hE hP hD hS hl hret
  have hE : ent_ p s m av meth c RX7 cX7_outputNow 3 (some .int) wsX7_outputNow (tyL kI kJ kS) D A false := hE
  obtain ⟨hx, hb, hml, hown, hts, hr, hlocks, hK, hA, hst⟩ := id hE
  have hl : lv_has ls 3 [(0, .ref to), (1, .int x1), (2, .int x2)] := hl
  unfold fX7_outputNow at hrun
  refine lv_iload_n hx hb dX7_outputNow_0 rfl (lv_at hl 2 rfl) ?_
  by_cases hs0 : x2 = 0
  · have hrun := it_t hs0 hrun
    refine lv_tableV (v := 0) (tgt := 56) hx hb dX7_outputNow_1 hs0 (by decide) (by decide) rfl (by decide) ?_
    refine lv_aload_n hx hb dX7_outputNow_56 rfl (lv_at hl 0 rfl) ?_
    refine lv_iload_n hx hb dX7_outputNow_57 rfl (lv_at hl 1 rfl) ?_
    refine lv_iload_n hx hb dX7_outputNow_58 rfl (lv_at hl 2 rfl) ?_
    refine lv_iconst (v := 1) hx hb dX7_outputNow_59 (by decide) ?_
    refine lv_iadd hx hb dX7_outputNow_60 ?_
    obtain ⟨q_1, hq_1, hrun⟩ := bd_some hrun
    refine cI_callV (As := [.int x1, .int (x2 + 1)]) (rest := []) (wr := []) (wN := (wX7 kI kJ to ta z nst his len txt thr god prm npr cov siz pts rea pla bef has)) (ci := 6) (q0 := 0) hE (c_X7_truthsOf l D kI kJ kS to ta x1 (x2 + 1) z nst his len txt thr god prm npr cov siz pts rea pla bef has hq_1) (cwV 2 hts gX7_outputNow_X7_truthsOf rfl rfl rfl (by decide +kernel) ⟨Nat.le_of_ble_eq_true rfl, Nat.le_of_ble_eq_true rfl⟩) hP hD hS [0, 1, 2, 3, 4, 5, 6, 7, 8, 9] [] [0, 1, 2, 3, 4, 5, 6, 7, 8, 9] rfl rfl rfl rfl (by decide) rfl rfl rfl rfl rfl hl.1 rfl (Nat.le_of_ble_eq_true rfl) dX7_outputNow_61 ⟨Nat.le_of_ble_eq_true rfl, Nat.le_of_ble_eq_true rfl⟩ (fun H locs hP hD hS => ?_)
    obtain rfl := Option.some.inj hrun
    exact hret _ _ _ _ rfl dX7_outputNow_64 hP hD hS
  have hrun := it_f hs0 hrun
  by_cases hs1 : x2 = 1
  · have hrun := it_t hs1 hrun
    refine lv_tableV (v := 1) (tgt := 56) hx hb dX7_outputNow_1 hs1 (by decide) (by decide) rfl (by decide) ?_
    refine lv_aload_n hx hb dX7_outputNow_56 rfl (lv_at hl 0 rfl) ?_
    refine lv_iload_n hx hb dX7_outputNow_57 rfl (lv_at hl 1 rfl) ?_
    refine lv_iload_n hx hb dX7_outputNow_58 rfl (lv_at hl 2 rfl) ?_
    refine lv_iconst (v := 1) hx hb dX7_outputNow_59 (by decide) ?_
    refine lv_iadd hx hb dX7_outputNow_60 ?_
    obtain ⟨q_2, hq_2, hrun⟩ := bd_some hrun
    refine cI_callV (As := [.int x1, .int (x2 + 1)]) (rest := []) (wr := []) (wN := (wX7 kI kJ to ta z nst his len txt thr god prm npr cov siz pts rea pla bef has)) (ci := 6) (q0 := 0) hE (c_X7_truthsOf l D kI kJ kS to ta x1 (x2 + 1) z nst his len txt thr god prm npr cov siz pts rea pla bef has hq_2) (cwV 2 hts gX7_outputNow_X7_truthsOf rfl rfl rfl (by decide +kernel) ⟨Nat.le_of_ble_eq_true rfl, Nat.le_of_ble_eq_true rfl⟩) hP hD hS [0, 1, 2, 3, 4, 5, 6, 7, 8, 9] [] [0, 1, 2, 3, 4, 5, 6, 7, 8, 9] rfl rfl rfl rfl (by decide) rfl rfl rfl rfl rfl hl.1 rfl (Nat.le_of_ble_eq_true rfl) dX7_outputNow_61 ⟨Nat.le_of_ble_eq_true rfl, Nat.le_of_ble_eq_true rfl⟩ (fun H locs hP hD hS => ?_)
    obtain rfl := Option.some.inj hrun
    exact hret _ _ _ _ rfl dX7_outputNow_64 hP hD hS
  have hrun := it_f hs1 hrun
  by_cases hs2 : x2 = 2
  · have hrun := it_t hs2 hrun
    refine lv_tableV (v := 2) (tgt := 65) hx hb dX7_outputNow_1 hs2 (by decide) (by decide) rfl (by decide) ?_
    refine lv_aload_n hx hb dX7_outputNow_65 rfl (lv_at hl 0 rfl) ?_
    refine lv_iload_n hx hb dX7_outputNow_66 rfl (lv_at hl 1 rfl) ?_
    refine lv_iload_n hx hb dX7_outputNow_67 rfl (lv_at hl 2 rfl) ?_
    refine lv_iconst (v := 1) hx hb dX7_outputNow_68 (by decide) ?_
    refine lv_isub hx hb dX7_outputNow_69 ?_
    obtain ⟨q_3, hq_3, hrun⟩ := bd_some hrun
    refine cI_callV (As := [.int x1, .int (x2 - 1)]) (rest := []) (wr := []) (wN := (wX7 kI kJ to ta z nst his len txt thr god prm npr cov siz pts rea pla bef has)) (ci := 6) (q0 := 0) hE (c_X7_decidedRows l D kI kJ kS to ta x1 (x2 - 1) z nst his len txt thr god prm npr cov siz pts rea pla bef has hq_3) (cwV 2 hts gX7_outputNow_X7_decidedRows rfl rfl rfl (by decide +kernel) ⟨Nat.le_of_ble_eq_true rfl, Nat.le_of_ble_eq_true rfl⟩) hP hD hS [0, 1, 2, 3, 4, 5, 6, 7, 8, 9] [] [0, 1, 2, 3, 4, 5, 6, 7, 8, 9] rfl rfl rfl rfl (by decide) rfl rfl rfl rfl rfl hl.1 rfl (Nat.le_of_ble_eq_true rfl) dX7_outputNow_70 ⟨Nat.le_of_ble_eq_true rfl, Nat.le_of_ble_eq_true rfl⟩ (fun H locs hP hD hS => ?_)
    obtain rfl := Option.some.inj hrun
    exact hret _ _ _ _ rfl dX7_outputNow_73 hP hD hS
  have hrun := it_f hs2 hrun
  by_cases hs3 : x2 = 3
  · have hrun := it_t hs3 hrun
    refine lv_tableV (v := 3) (tgt := 65) hx hb dX7_outputNow_1 hs3 (by decide) (by decide) rfl (by decide) ?_
    refine lv_aload_n hx hb dX7_outputNow_65 rfl (lv_at hl 0 rfl) ?_
    refine lv_iload_n hx hb dX7_outputNow_66 rfl (lv_at hl 1 rfl) ?_
    refine lv_iload_n hx hb dX7_outputNow_67 rfl (lv_at hl 2 rfl) ?_
    refine lv_iconst (v := 1) hx hb dX7_outputNow_68 (by decide) ?_
    refine lv_isub hx hb dX7_outputNow_69 ?_
    obtain ⟨q_4, hq_4, hrun⟩ := bd_some hrun
    refine cI_callV (As := [.int x1, .int (x2 - 1)]) (rest := []) (wr := []) (wN := (wX7 kI kJ to ta z nst his len txt thr god prm npr cov siz pts rea pla bef has)) (ci := 6) (q0 := 0) hE (c_X7_decidedRows l D kI kJ kS to ta x1 (x2 - 1) z nst his len txt thr god prm npr cov siz pts rea pla bef has hq_4) (cwV 2 hts gX7_outputNow_X7_decidedRows rfl rfl rfl (by decide +kernel) ⟨Nat.le_of_ble_eq_true rfl, Nat.le_of_ble_eq_true rfl⟩) hP hD hS [0, 1, 2, 3, 4, 5, 6, 7, 8, 9] [] [0, 1, 2, 3, 4, 5, 6, 7, 8, 9] rfl rfl rfl rfl (by decide) rfl rfl rfl rfl rfl hl.1 rfl (Nat.le_of_ble_eq_true rfl) dX7_outputNow_70 ⟨Nat.le_of_ble_eq_true rfl, Nat.le_of_ble_eq_true rfl⟩ (fun H locs hP hD hS => ?_)
    obtain rfl := Option.some.inj hrun
    exact hret _ _ _ _ rfl dX7_outputNow_73 hP hD hS
  have hrun := it_f hs3 hrun
  by_cases hs4 : x2 = 4
  · have hrun := it_t hs4 hrun
    refine lv_tableV (v := 4) (tgt := 65) hx hb dX7_outputNow_1 hs4 (by decide) (by decide) rfl (by decide) ?_
    refine lv_aload_n hx hb dX7_outputNow_65 rfl (lv_at hl 0 rfl) ?_
    refine lv_iload_n hx hb dX7_outputNow_66 rfl (lv_at hl 1 rfl) ?_
    refine lv_iload_n hx hb dX7_outputNow_67 rfl (lv_at hl 2 rfl) ?_
    refine lv_iconst (v := 1) hx hb dX7_outputNow_68 (by decide) ?_
    refine lv_isub hx hb dX7_outputNow_69 ?_
    obtain ⟨q_5, hq_5, hrun⟩ := bd_some hrun
    refine cI_callV (As := [.int x1, .int (x2 - 1)]) (rest := []) (wr := []) (wN := (wX7 kI kJ to ta z nst his len txt thr god prm npr cov siz pts rea pla bef has)) (ci := 6) (q0 := 0) hE (c_X7_decidedRows l D kI kJ kS to ta x1 (x2 - 1) z nst his len txt thr god prm npr cov siz pts rea pla bef has hq_5) (cwV 2 hts gX7_outputNow_X7_decidedRows rfl rfl rfl (by decide +kernel) ⟨Nat.le_of_ble_eq_true rfl, Nat.le_of_ble_eq_true rfl⟩) hP hD hS [0, 1, 2, 3, 4, 5, 6, 7, 8, 9] [] [0, 1, 2, 3, 4, 5, 6, 7, 8, 9] rfl rfl rfl rfl (by decide) rfl rfl rfl rfl rfl hl.1 rfl (Nat.le_of_ble_eq_true rfl) dX7_outputNow_70 ⟨Nat.le_of_ble_eq_true rfl, Nat.le_of_ble_eq_true rfl⟩ (fun H locs hP hD hS => ?_)
    obtain rfl := Option.some.inj hrun
    exact hret _ _ _ _ rfl dX7_outputNow_73 hP hD hS
  have hrun := it_f hs4 hrun
  by_cases hs5 : x2 = 5
  · have hrun := it_t hs5 hrun
    refine lv_tableV (v := 5) (tgt := 74) hx hb dX7_outputNow_1 hs5 (by decide) (by decide) rfl (by decide) ?_
    refine lv_aload_n hx hb dX7_outputNow_74 rfl (lv_at hl 0 rfl) ?_
    refine lv_iload_n hx hb dX7_outputNow_75 rfl (lv_at hl 1 rfl) ?_
    obtain ⟨q_6, hq_6, hrun⟩ := bd_some hrun
    refine cV_callV (As := [.int x1]) (rest := []) (wr := []) (wN := (wX7 kI kJ to ta z nst his len txt thr q_6.1 q_6.2.1 q_6.2.2 cov siz pts rea pla bef has)) (ci := 6) (q0 := 0) hE (c_X7_layPrimes l D kI kJ kS to ta x1 z nst his len txt thr god prm npr cov siz pts rea pla bef has hq_6) (cwV 1 hts gX7_outputNow_X7_layPrimes rfl rfl rfl (by decide +kernel) ⟨Nat.le_of_ble_eq_true rfl, Nat.le_of_ble_eq_true rfl⟩) hP hD hS [0, 1, 2, 3, 4, 5, 6, 7, 8, 9] [] [0, 1, 2, 3, 4, 5, 6, 7, 8, 9] rfl rfl rfl rfl (by decide) rfl rfl rfl rfl rfl hl.1 rfl (Nat.le_of_ble_eq_true rfl) dX7_outputNow_76 ⟨Nat.le_of_ble_eq_true rfl, Nat.le_of_ble_eq_true rfl⟩ (fun H locs hP hD hS => ?_)
    refine lv_aload_n hx hb dX7_outputNow_79 rfl (lv_at hl 0 rfl) ?_
    refine va_get (D := D) (ci := 6) (v := .int q_6.2.2) (C := RX7) (T := TX7) (N := 16) hx hb hts iX7_outputNow_X7 hown hK hP 0 rfl rfl 8 (by decide) (hts _ mX7_outputNow_1) (fun _ h9 => h9) rfl dX7_outputNow_80 ?_
    obtain rfl := Option.some.inj hrun
    exact hret _ _ _ _ rfl dX7_outputNow_83 hP hD hS
  have hrun := it_f hs5 hrun
  by_cases hs6 : x2 = 6
  · have hrun := it_t hs6 hrun
    refine lv_tableV (v := 6) (tgt := 103) hx hb dX7_outputNow_1 hs6 (by decide) (by decide) rfl (by decide) ?_
    refine lv_aload_n hx hb dX7_outputNow_103 rfl (lv_at hl 0 rfl) ?_
    refine lv_iload_n hx hb dX7_outputNow_104 rfl (lv_at hl 1 rfl) ?_
    refine lv_iload_n hx hb dX7_outputNow_105 rfl (lv_at hl 2 rfl) ?_
    obtain ⟨q_7, hq_7, hrun⟩ := bd_some hrun
    refine cI_callV (As := [.int x1, .int x2]) (rest := []) (wr := []) (wN := (wX7 kI kJ to ta z nst his len txt thr god prm npr cov siz pts rea pla bef has)) (ci := 6) (q0 := 0) hE (c_X7_coverOf l D kI kJ kS to ta x1 x2 z nst his len txt thr god prm npr cov siz pts rea pla bef has hq_7) (cwV 2 hts gX7_outputNow_X7_coverOf rfl rfl rfl (by decide +kernel) ⟨Nat.le_of_ble_eq_true rfl, Nat.le_of_ble_eq_true rfl⟩) hP hD hS [0, 1, 2, 3, 4, 5, 6, 7, 8, 9] [] [0, 1, 2, 3, 4, 5, 6, 7, 8, 9] rfl rfl rfl rfl (by decide) rfl rfl rfl rfl rfl hl.1 rfl (Nat.le_of_ble_eq_true rfl) dX7_outputNow_106 ⟨Nat.le_of_ble_eq_true rfl, Nat.le_of_ble_eq_true rfl⟩ (fun H locs hP hD hS => ?_)
    obtain rfl := Option.some.inj hrun
    exact hret _ _ _ _ rfl dX7_outputNow_109 hP hD hS
  have hrun := it_f hs6 hrun
  by_cases hs7 : x2 = 7
  · have hrun := it_t hs7 hrun
    refine lv_tableV (v := 7) (tgt := 103) hx hb dX7_outputNow_1 hs7 (by decide) (by decide) rfl (by decide) ?_
    refine lv_aload_n hx hb dX7_outputNow_103 rfl (lv_at hl 0 rfl) ?_
    refine lv_iload_n hx hb dX7_outputNow_104 rfl (lv_at hl 1 rfl) ?_
    refine lv_iload_n hx hb dX7_outputNow_105 rfl (lv_at hl 2 rfl) ?_
    obtain ⟨q_8, hq_8, hrun⟩ := bd_some hrun
    refine cI_callV (As := [.int x1, .int x2]) (rest := []) (wr := []) (wN := (wX7 kI kJ to ta z nst his len txt thr god prm npr cov siz pts rea pla bef has)) (ci := 6) (q0 := 0) hE (c_X7_coverOf l D kI kJ kS to ta x1 x2 z nst his len txt thr god prm npr cov siz pts rea pla bef has hq_8) (cwV 2 hts gX7_outputNow_X7_coverOf rfl rfl rfl (by decide +kernel) ⟨Nat.le_of_ble_eq_true rfl, Nat.le_of_ble_eq_true rfl⟩) hP hD hS [0, 1, 2, 3, 4, 5, 6, 7, 8, 9] [] [0, 1, 2, 3, 4, 5, 6, 7, 8, 9] rfl rfl rfl rfl (by decide) rfl rfl rfl rfl rfl hl.1 rfl (Nat.le_of_ble_eq_true rfl) dX7_outputNow_106 ⟨Nat.le_of_ble_eq_true rfl, Nat.le_of_ble_eq_true rfl⟩ (fun H locs hP hD hS => ?_)
    obtain rfl := Option.some.inj hrun
    exact hret _ _ _ _ rfl dX7_outputNow_109 hP hD hS
  have hrun := it_f hs7 hrun
  by_cases hs8 : x2 = 8
  · have hrun := it_t hs8 hrun
    refine lv_tableV (v := 8) (tgt := 84) hx hb dX7_outputNow_1 hs8 (by decide) (by decide) rfl (by decide) ?_
    refine lv_aload_n hx hb dX7_outputNow_84 rfl (lv_at hl 0 rfl) ?_
    refine va_get (D := D) (ci := 6) (v := .ref (ta 0)) (C := RX7) (T := TX7) (N := 16) hx hb hts iX7_outputNow_X7 hown hK hP 0 rfl rfl 0 (by decide) (hts _ mX7_outputNow_2) (fun _ h9 => h9) rfl dX7_outputNow_85 ?_
    refine lv_iconst (v := 4) hx hb dX7_outputNow_88 (by decide) ?_
    refine lv_iload_n hx hb dX7_outputNow_89 rfl (lv_at hl 1 rfl) ?_
    refine lv_iadd hx hb dX7_outputNow_90 ?_
    obtain ⟨hin, hrun⟩ := gd_some hrun
    refine va_iald hx hb hK hP 1 0 rfl rfl hin dX7_outputNow_91 ?_
    obtain rfl := Option.some.inj hrun
    exact hret _ _ _ _ rfl dX7_outputNow_92 hP hD hS
  have hrun := it_f hs8 hrun
  by_cases hs9 : x2 = 9
  · have hrun := it_t hs9 hrun
    refine lv_tableV (v := 9) (tgt := 93) hx hb dX7_outputNow_1 hs9 (by decide) (by decide) rfl (by decide) ?_
    refine lv_aload_n hx hb dX7_outputNow_93 rfl (lv_at hl 0 rfl) ?_
    refine va_get (D := D) (ci := 6) (v := .ref (ta 0)) (C := RX7) (T := TX7) (N := 16) hx hb hts iX7_outputNow_X7 hown hK hP 0 rfl rfl 0 (by decide) (hts _ mX7_outputNow_2) (fun _ h9 => h9) rfl dX7_outputNow_94 ?_
    refine lv_bipush (v := 8) hx hb dX7_outputNow_97 (by decide) ?_
    refine lv_iload_n hx hb dX7_outputNow_99 rfl (lv_at hl 1 rfl) ?_
    refine lv_iadd hx hb dX7_outputNow_100 ?_
    obtain ⟨hin, hrun⟩ := gd_some hrun
    refine va_iald hx hb hK hP 1 0 rfl rfl hin dX7_outputNow_101 ?_
    obtain rfl := Option.some.inj hrun
    exact hret _ _ _ _ rfl dX7_outputNow_102 hP hD hS
  have hrun := it_f hs9 hrun
  refine lv_tableOut (tgt := 103) hx hb dX7_outputNow_1 (sw_out [0, 1, 2, 3, 4, 5, 6, 7, 8, 9] (by decide) (by decide) (by decide) (⟨hs0, hs1, hs2, hs3, hs4, hs5, hs6, hs7, hs8, hs9, trivial⟩)) (by decide) ?_
  refine lv_aload_n hx hb dX7_outputNow_103 rfl (lv_at hl 0 rfl) ?_
  refine lv_iload_n hx hb dX7_outputNow_104 rfl (lv_at hl 1 rfl) ?_
  refine lv_iload_n hx hb dX7_outputNow_105 rfl (lv_at hl 2 rfl) ?_
  obtain ⟨q_9, hq_9, hrun⟩ := bd_some hrun
  refine cI_callV (As := [.int x1, .int x2]) (rest := []) (wr := []) (wN := (wX7 kI kJ to ta z nst his len txt thr god prm npr cov siz pts rea pla bef has)) (ci := 6) (q0 := 0) hE (c_X7_coverOf l D kI kJ kS to ta x1 x2 z nst his len txt thr god prm npr cov siz pts rea pla bef has hq_9) (cwV 2 hts gX7_outputNow_X7_coverOf rfl rfl rfl (by decide +kernel) ⟨Nat.le_of_ble_eq_true rfl, Nat.le_of_ble_eq_true rfl⟩) hP hD hS [0, 1, 2, 3, 4, 5, 6, 7, 8, 9] [] [0, 1, 2, 3, 4, 5, 6, 7, 8, 9] rfl rfl rfl rfl (by decide) rfl rfl rfl rfl rfl hl.1 rfl (Nat.le_of_ble_eq_true rfl) dX7_outputNow_106 ⟨Nat.le_of_ble_eq_true rfl, Nat.le_of_ble_eq_true rfl⟩ (fun H locs hP hD hS => ?_)
  obtain rfl := Option.some.inj hrun
  exact hret _ _ _ _ rfl dX7_outputNow_109 hP hD hS
/-! ===== X7_output ===== -/
theorem mX7_output_1 : Cond.fieldLink RX7 38 "GateMazeModel" "thrown" "I" ∈ wsX7_output := List.mem_of_getElem? (i := 1) rfl
theorem iX7_output_X7 : ∀ w ∈ u_ws RX7 TX7 16, w ∈ wsX7_output := fun w h => List.mem_cons_of_mem _ (List.mem_append_right _ h)
set_option maxHeartbeats 4000000 in
set_option maxRecDepth 100000 in
theorem c_X7_output (l : Launch) (D : va_G) (kI kJ kS : ClassId) (to : Nat) (ta : Nat → Nat) (x1 : Int32) (x2 : Int32) (z : (Nat → Int32)) (nst : Int32) (his : (Nat → Int32)) (len : Int32) (txt : (Nat → Int32)) (thr : Int32) (god : (Nat → Int64)) (prm : (Nat → Int32)) (npr : Int32) (cov : (Nat → Int32)) (siz : (Nat → Int32)) (pts : (Nat → Int32)) (rea : Int32) (pla : Int32) (bef : (Nat → Int32)) (has : Int64) {r : Int32 × Int32 × (Nat → Int64) × (Nat → Int32) × Int32 × (Nat → Int32) × (Nat → Int32)} (hrun : fX7_output z god prm npr cov siz x1 x2 = some r) : cI l D (tyL kI kJ kS) false yX7_output wsX7_output (rmk 5 0 0 119) [.ref to, .int x1, .int x2] (wX7 kI kJ to ta z nst his len txt thr god prm npr cov siz pts rea pla bef has) (wX7 kI kJ to ta z nst his len txt r.2.1 r.2.2.1 r.2.2.2.1 r.2.2.2.2.1 r.2.2.2.2.2.1 r.2.2.2.2.2.2 pts rea pla bef has) r.1 := by
  refine cI_of (cc := cX7_output) (maxL := 3) (by decide) rfl (Nat.le_of_ble_eq_true rfl) ?_
  intro p e s m av below meth c A Q ls hE hP hD hS hl hret
  have hE : ent_ p s m av meth c RX7 cX7_output 3 (some .int) wsX7_output (tyL kI kJ kS) D A false := hE
  obtain ⟨hx, hb, hml, hown, hts, hr, hlocks, hK, hA, hst⟩ := id hE
  have hl : lv_has ls 3 [(0, .ref to), (1, .int x1), (2, .int x2)] := hl
  have c_J27 : ∀ (x1 : Int32) (x2 : Int32) (s0 : Int32) (god : (Nat → Int64)) (prm : (Nat → Int32)) (npr : Int32) (cov : (Nat → Int32)) (siz : (Nat → Int32)) (thr : Int32), fX7_output_J27 x1 x2 s0 z god prm npr cov siz = some r → wAt p l e (rmk 5 0 0 119) s m av below meth c D A 3 0 0 Q 27 [.int s0, .ref to] [(0, .ref to), (1, .int x1), (2, .int x2)] (wX7 kI kJ to ta z nst his len txt thr god prm npr cov siz pts rea pla bef has) := by
    intro x1 x2 s0 god prm npr cov siz thr hrun H locs ls hP hD hS hl
    unfold fX7_output_J27 at hrun
    refine va_put (D := D) (ci := 6) (v := .int s0) (ty := .int) (C := RX7) (T := TX7) (N := 16) hx hb hts iX7_output_X7 tyX7 tyX7_ok nmX7 hown hK hP hD hS 0 rfl rfl 5 (by decide) (hts _ mX7_output_1) (fun _ h9 => h9) rfl (by decide +kernel) rfl rfl (Nat.le_of_ble_eq_true rfl) dX7_output_27 (fun H locs hP hD hS => ?_)
    have hP : va_P D vwCl (wX7 kI kJ to ta z nst his len txt s0 god prm npr cov siz pts rea pla bef has) H := hP
    have hD : va_D A (wX7 kI kJ to ta z nst his len txt s0 god prm npr cov siz pts rea pla bef has) := hD
    refine lv_aload_n hx hb dX7_output_30 rfl (lv_at hl 0 rfl) ?_
    refine va_get (D := D) (ci := 6) (v := .int s0) (C := RX7) (T := TX7) (N := 16) hx hb hts iX7_output_X7 hown hK hP 0 rfl rfl 5 (by decide) (hts _ mX7_output_1) (fun _ h9 => h9) rfl dX7_output_31 ?_
    refine lv_if_le (tgt := 39) hx hb dX7_output_34 (by decide) (fun hc => ?_) (fun hc => ?_)
    · have hrun := it_t hc hrun
      refine lv_aload_n hx hb dX7_output_39 rfl (lv_at hl 0 rfl) ?_
      refine lv_iload_n hx hb dX7_output_40 rfl (lv_at hl 1 rfl) ?_
      obtain ⟨q_1, hq_1, hrun⟩ := bd_some hrun
      refine cV_callV (As := [.int x1]) (rest := []) (wr := []) (wN := (wX7 kI kJ to ta z nst his len txt s0 q_1.1 q_1.2.1 q_1.2.2.1 q_1.2.2.2.1 q_1.2.2.2.2 pts rea pla bef has)) (ci := 6) (q0 := 0) hE (c_X7_layCover l D kI kJ kS to ta x1 z nst his len txt s0 god prm npr cov siz pts rea pla bef has hq_1) (cwV 1 hts gX7_output_X7_layCover rfl rfl rfl (by decide +kernel) ⟨Nat.le_of_ble_eq_true rfl, Nat.le_of_ble_eq_true rfl⟩) hP hD hS [0, 1, 2, 3, 4, 5, 6, 7, 8, 9] [] [0, 1, 2, 3, 4, 5, 6, 7, 8, 9] rfl rfl rfl rfl (by decide) rfl rfl rfl rfl rfl hl.1 rfl (Nat.le_of_ble_eq_true rfl) dX7_output_41 ⟨Nat.le_of_ble_eq_true rfl, Nat.le_of_ble_eq_true rfl⟩ (fun H locs hP hD hS => ?_)
      refine lv_aload_n hx hb dX7_output_44 rfl (lv_at hl 0 rfl) ?_
      refine lv_iload_n hx hb dX7_output_45 rfl (lv_at hl 1 rfl) ?_
      refine lv_iload_n hx hb dX7_output_46 rfl (lv_at hl 2 rfl) ?_
      obtain ⟨q_2, hq_2, hrun⟩ := bd_some hrun
      refine cI_callV (As := [.int x1, .int x2]) (rest := []) (wr := []) (wN := (wX7 kI kJ to ta z nst his len txt s0 q_2.2.1 q_2.2.2.1 q_2.2.2.2 q_1.2.2.2.1 q_1.2.2.2.2 pts rea pla bef has)) (ci := 6) (q0 := 0) hE (c_X7_outputNow l D kI kJ kS to ta x1 x2 z nst his len txt s0 q_1.1 q_1.2.1 q_1.2.2.1 q_1.2.2.2.1 q_1.2.2.2.2 pts rea pla bef has hq_2) (cwV 2 hts gX7_output_X7_outputNow rfl rfl rfl (by decide +kernel) ⟨Nat.le_of_ble_eq_true rfl, Nat.le_of_ble_eq_true rfl⟩) hP hD hS [0, 1, 2, 3, 4, 5, 6, 7, 8, 9] [] [0, 1, 2, 3, 4, 5, 6, 7, 8, 9] rfl rfl rfl rfl (by decide) rfl rfl rfl rfl rfl hl.1 rfl (Nat.le_of_ble_eq_true rfl) dX7_output_47 ⟨Nat.le_of_ble_eq_true rfl, Nat.le_of_ble_eq_true rfl⟩ (fun H locs hP hD hS => ?_)
      obtain rfl := Option.some.inj hrun
      exact hret _ _ _ _ rfl dX7_output_50 hP hD hS
    · have hrun := it_f hc hrun
      refine lv_iconst (v := 0) hx hb dX7_output_37 (by decide) ?_
      obtain rfl := Option.some.inj hrun
      exact hret _ _ _ _ rfl dX7_output_38 hP hD hS
  unfold fX7_output at hrun
  refine lv_aload_n hx hb dX7_output_0 rfl (lv_at hl 0 rfl) ?_
  refine lv_iload_n hx hb dX7_output_1 rfl (lv_at hl 1 rfl) ?_
  obtain ⟨q_3, hq_3, hrun⟩ := bd_some hrun
  refine cI_callS (As := [.int x1]) (rest := [.ref to]) (wr := (wX7 kI kJ to ta z nst his len txt thr god prm npr cov siz pts rea pla bef has)) (wN := (wX7 kI kJ to ta z nst his len txt thr god prm npr cov siz pts rea pla bef has)) hE (c_X7_isOutput l D kI kJ kS x1  hq_3) (va_cwS 1 hts gX7_output_X7_isOutput rfl rfl rfl (by decide +kernel) ⟨Nat.le_of_ble_eq_true rfl, Nat.le_of_ble_eq_true rfl⟩) hP hD hS [] [0, 1, 2, 3, 4, 5, 6, 7, 8, 9] [0, 1, 2, 3, 4, 5, 6, 7, 8, 9] rfl rfl rfl rfl (by decide) rfl rfl rfl hl.1 rfl (Nat.le_of_ble_eq_true rfl) dX7_output_2 ⟨Nat.le_of_ble_eq_true rfl, Nat.le_of_ble_eq_true rfl⟩ (fun H locs hP hD hS => ?_)
  refine lv_if_ne (tgt := 12) hx hb dX7_output_5 (by decide) (fun hc => ?_) (fun hc => ?_)
  · have hrun := it_f hc hrun
    refine lv_iload_n hx hb dX7_output_12 rfl (lv_at hl 2 rfl) ?_
    refine lv_iconst (v := 0) hx hb dX7_output_13 (by decide) ?_
    refine lv_bipush (v := 10) hx hb dX7_output_14 (by decide) ?_
    obtain ⟨q_4, hq_4, hrun⟩ := bd_some hrun
    refine cI_callS (As := [.int x2, .int 0, .int 10]) (rest := [.ref to]) (wr := (wX7 kI kJ to ta z nst his len txt thr god prm npr cov siz pts rea pla bef has)) (wN := (wX7 kI kJ to ta z nst his len txt thr god prm npr cov siz pts rea pla bef has)) hE (c_X7_within l D kI kJ kS x2 0 10  hq_4) (va_cwS 3 hts gX7_output_X7_within rfl rfl rfl (by decide +kernel) ⟨Nat.le_of_ble_eq_true rfl, Nat.le_of_ble_eq_true rfl⟩) hP hD hS [] [0, 1, 2, 3, 4, 5, 6, 7, 8, 9] [0, 1, 2, 3, 4, 5, 6, 7, 8, 9] rfl rfl rfl rfl (by decide) rfl rfl rfl hl.1 rfl (Nat.le_of_ble_eq_true rfl) dX7_output_16 ⟨Nat.le_of_ble_eq_true rfl, Nat.le_of_ble_eq_true rfl⟩ (fun H locs hP hD hS => ?_)
    refine lv_if_eq (tgt := 26) hx hb dX7_output_19 (by decide) (fun hc => ?_) (fun hc => ?_)
    · have hrun := it_t hc hrun
      refine lv_iconst (v := 2) hx hb dX7_output_26 (by decide) ?_
      exact c_J27 x1 x2 2 god prm npr cov siz thr hrun _ _ _ hP hD hS (lv_sub hl [0, 1, 2] rfl)
    · have hrun := it_f hc hrun
      refine lv_iconst (v := 0) hx hb dX7_output_22 (by decide) ?_
      refine lv_goto (tgt := 27) hx hb dX7_output_23 (by decide) ?_
      exact c_J27 x1 x2 0 god prm npr cov siz thr hrun _ _ _ hP hD hS (lv_sub hl [0, 1, 2] rfl)
  · have hrun := it_t hc hrun
    refine lv_iconst (v := 1) hx hb dX7_output_8 (by decide) ?_
    refine lv_goto (tgt := 27) hx hb dX7_output_9 (by decide) ?_
    exact c_J27 x1 x2 1 god prm npr cov siz thr hrun _ _ _ hP hD hS (lv_sub hl [0, 1, 2] rfl)
/-! ===== X7_productNow ===== -/
theorem mX7_productNow_1 : Cond.fieldLink RX7 29 "GateMazeModel" "sizes" "[I" ∈ wsX7_productNow := List.mem_of_getElem? (i := 1) rfl
theorem mX7_productNow_2 : Cond.fieldLink RX7 26 "GateMazeModel" "covers" "[I" ∈ wsX7_productNow := List.mem_of_getElem? (i := 2) rfl
theorem iX7_productNow_X7 : ∀ w ∈ u_ws RX7 TX7 16, w ∈ wsX7_productNow := fun w h => List.mem_cons_of_mem _ (List.mem_append_right _ h)
set_option maxHeartbeats 4000000 in
set_option maxRecDepth 100000 in
theorem c_X7_productNow (l : Launch) (D : va_G) (kI kJ kS : ClassId) (to : Nat) (ta : Nat → Nat) (x1 : Int32) (x2 : Int32) (x3 : Int32) (z : (Nat → Int32)) (nst : Int32) (his : (Nat → Int32)) (len : Int32) (txt : (Nat → Int32)) (thr : Int32) (god : (Nat → Int64)) (prm : (Nat → Int32)) (npr : Int32) (cov : (Nat → Int32)) (siz : (Nat → Int32)) (pts : (Nat → Int32)) (rea : Int32) (pla : Int32) (bef : (Nat → Int32)) (has : Int64) {r : Int32} (hrun : fX7_productNow z cov siz x1 x2 x3 = some r) : cI l D (tyL kI kJ kS) false yX7_productNow wsX7_productNow (rmk 2 0 0 47) [.ref to, .int x1, .int x2, .int x3] (wX7 kI kJ to ta z nst his len txt thr god prm npr cov siz pts rea pla bef has) (wX7 kI kJ to ta z nst his len txt thr god prm npr cov siz pts rea pla bef has) r := by
  refine cI_of (cc := cX7_productNow) (maxL := 5) (by decide) rfl (Nat.le_of_ble_eq_true rfl) ?_
  intro p e s m av below meth c A Q ls hE hP hD hS hl hret
  have hE : ent_ p s m av meth c RX7 cX7_productNow 5 (some .int) wsX7_productNow (tyL kI kJ kS) D A false := hE
  obtain ⟨hx, hb, hml, hown, hts, hr, hlocks, hK, hA, hst⟩ := id hE
  have hl : lv_has ls 5 [(0, .ref to), (1, .int x1), (2, .int x2), (3, .int x3)] := hl
  unfold fX7_productNow at hrun
  refine lv_iload_n hx hb dX7_productNow_0 rfl (lv_at hl 2 rfl) ?_
  refine lv_aload_n hx hb dX7_productNow_1 rfl (lv_at hl 0 rfl) ?_
  refine va_get (D := D) (ci := 6) (v := .ref (ta 6)) (C := RX7) (T := TX7) (N := 16) hx hb hts iX7_productNow_X7 hown hK hP 0 rfl rfl 10 (by decide) (hts _ mX7_productNow_1) (fun _ h9 => h9) rfl dX7_productNow_2 ?_
  refine lv_iload_n hx hb dX7_productNow_5 rfl (lv_at hl 1 rfl) ?_
  obtain ⟨hin, hrun⟩ := gd_some hrun
  refine va_iald hx hb hK hP 7 0 rfl rfl hin dX7_productNow_6 ?_
  refine lv_icmp_lt (tgt := 12) hx hb dX7_productNow_7 (by decide) (fun hc => ?_) (fun hc => ?_)
  · have hrun := it_t hc hrun
    refine lv_aload_n hx hb dX7_productNow_12 rfl (lv_at hl 0 rfl) ?_
    refine va_get (D := D) (ci := 6) (v := .ref (ta 5)) (C := RX7) (T := TX7) (N := 16) hx hb hts iX7_productNow_X7 hown hK hP 0 rfl rfl 9 (by decide) (hts _ mX7_productNow_2) (fun _ h9 => h9) rfl dX7_productNow_13 ?_
    refine lv_bipush (v := 64) hx hb dX7_productNow_16 (by decide) ?_
    refine lv_iload_n hx hb dX7_productNow_18 rfl (lv_at hl 1 rfl) ?_
    refine lv_imul hx hb dX7_productNow_19 ?_
    refine lv_iload_n hx hb dX7_productNow_20 rfl (lv_at hl 2 rfl) ?_
    refine lv_iadd hx hb dX7_productNow_21 ?_
    obtain ⟨hin, hrun⟩ := gd_some hrun
    refine va_iald hx hb hK hP 6 0 rfl rfl hin dX7_productNow_22 ?_
    refine lv_istore (lv' := [(4, .int (cov ((64 * x1) + x2).toNatClampNeg)), (0, .ref to), (1, .int x1), (2, .int x2), (3, .int x3)]) hx hb dX7_productNow_23 hl (by decide) rfl (fun ls hl => ?_)
    refine lv_iload_n hx hb dX7_productNow_25 rfl (lv_at hl 4 rfl) ?_
    refine lv_if_ne (tgt := 37) hx hb dX7_productNow_26 (by decide) (fun hc => ?_) (fun hc => ?_)
    · have hrun := it_f hc hrun
      refine lv_iload_n hx hb dX7_productNow_37 rfl (lv_at hl 4 rfl) ?_
      refine lv_iconst (v := 1) hx hb dX7_productNow_38 (by decide) ?_
      refine lv_icmp_ne (tgt := 50) hx hb dX7_productNow_39 (by decide) (fun hc => ?_) (fun hc => ?_)
      · have hrun := it_f hc hrun
        refine lv_iload_n hx hb dX7_productNow_50 rfl (lv_at hl 4 rfl) ?_
        refine lv_iconst (v := 2) hx hb dX7_productNow_51 (by decide) ?_
        refine lv_icmp_ne (tgt := 67) hx hb dX7_productNow_52 (by decide) (fun hc => ?_) (fun hc => ?_)
        · have hrun := it_f hc hrun
          refine lv_aload_n hx hb dX7_productNow_67 rfl (lv_at hl 1 rfl) ?_
          refine lv_iload hx hb dX7_productNow_68 (lv_at hl 0 rfl) ?_
          obtain ⟨q_1, hq_1, hrun⟩ := bd_some hrun
          refine cI_callV (As := [.int (cov ((64 * x1) + x2).toNatClampNeg)]) (rest := []) (wr := []) (wN := (wX7 kI kJ to ta z nst his len txt thr god prm npr cov siz pts rea pla bef has)) (ci := 6) (q0 := 0) hE (c_X7_coversWith l D kI kJ kS to ta (cov ((64 * x1) + x2).toNatClampNeg) z nst his len txt thr god prm npr cov siz pts rea pla bef has hq_1) (cwV 1 hts gX7_productNow_X7_coversWith rfl rfl rfl (by decide +kernel) ⟨Nat.le_of_ble_eq_true rfl, Nat.le_of_ble_eq_true rfl⟩) hP hD hS [0, 1, 2, 3, 4, 5, 6, 7, 8, 9] [] [0, 1, 2, 3, 4, 5, 6, 7, 8, 9] rfl rfl rfl rfl (by decide) rfl rfl rfl rfl rfl hl.1 rfl (Nat.le_of_ble_eq_true rfl) dX7_productNow_70 ⟨Nat.le_of_ble_eq_true rfl, Nat.le_of_ble_eq_true rfl⟩ (fun H locs hP hD hS => ?_)
          obtain rfl := Option.some.inj hrun
          exact hret _ _ _ _ rfl dX7_productNow_73 hP hD hS
        · have hrun := it_t hc hrun
          refine lv_aload_n hx hb dX7_productNow_55 rfl (lv_at hl 1 rfl) ?_
          refine lv_iload hx hb dX7_productNow_56 (lv_at hl 0 rfl) ?_
          obtain ⟨q_2, hq_2, hrun⟩ := bd_some hrun
          refine cL_callV (As := [.int (cov ((64 * x1) + x2).toNatClampNeg)]) (rest := []) (wr := []) (wN := (wX7 kI kJ to ta z nst his len txt thr god prm npr cov siz pts rea pla bef has)) (ci := 6) (q0 := 0) hE (c_X7_rowsOf l D kI kJ kS to ta (cov ((64 * x1) + x2).toNatClampNeg) z nst his len txt thr god prm npr cov siz pts rea pla bef has hq_2) (cwV 1 hts gX7_productNow_X7_rowsOf rfl rfl rfl (by decide +kernel) ⟨Nat.le_of_ble_eq_true rfl, Nat.le_of_ble_eq_true rfl⟩) hP hD hS [0, 1, 2, 3, 4, 5, 6, 7, 8, 9] [] [0, 1, 2, 3, 4, 5, 6, 7, 8, 9] rfl rfl rfl rfl (by decide) rfl rfl rfl rfl rfl hl.1 rfl (Nat.le_of_ble_eq_true rfl) dX7_productNow_58 ⟨Nat.le_of_ble_eq_true rfl, Nat.le_of_ble_eq_true rfl⟩ (fun H locs hP hD hS => ?_)
          obtain ⟨q_3, hq_3, hrun⟩ := bd_some hrun
          refine cI_callS (As := [.long q_2]) (rest := []) (wr := (wX7 kI kJ to ta z nst his len txt thr god prm npr cov siz pts rea pla bef has)) (wN := (wX7 kI kJ to ta z nst his len txt thr god prm npr cov siz pts rea pla bef has)) hE (c_X7_onesOf l D kI kJ kS q_2  hq_3) (va_cwS 1 hts gX7_productNow_X7_onesOf rfl rfl rfl (by decide +kernel) ⟨Nat.le_of_ble_eq_true rfl, Nat.le_of_ble_eq_true rfl⟩) hP hD hS [] [0, 1, 2, 3, 4, 5, 6, 7, 8, 9] [0, 1, 2, 3, 4, 5, 6, 7, 8, 9] rfl rfl rfl rfl (by decide) rfl rfl rfl hl.1 rfl (Nat.le_of_ble_eq_true rfl) dX7_productNow_61 ⟨Nat.le_of_ble_eq_true rfl, Nat.le_of_ble_eq_true rfl⟩ (fun H locs hP hD hS => ?_)
          refine lv_goto (tgt := 73) hx hb dX7_productNow_64 (by decide) ?_
          obtain rfl := Option.some.inj hrun
          exact hret _ _ _ _ rfl dX7_productNow_73 hP hD hS
      · have hrun := it_t hc hrun
        refine lv_iload hx hb dX7_productNow_42 (lv_at hl 0 rfl) ?_
        refine lv_bipush (v := 64) hx hb dX7_productNow_44 (by decide) ?_
        refine lv_irem hx hb dX7_productNow_46 (by decide) ?_
        refine lv_goto (tgt := 73) hx hb dX7_productNow_47 (by decide) ?_
        obtain rfl := Option.some.inj hrun
        exact hret _ _ _ _ rfl dX7_productNow_73 hP hD hS
    · have hrun := it_t hc hrun
      refine lv_iload hx hb dX7_productNow_29 (lv_at hl 0 rfl) ?_
      refine lv_bipush (v := 64) hx hb dX7_productNow_31 (by decide) ?_
      refine lv_idiv hx hb dX7_productNow_33 (by decide) ?_
      refine lv_goto (tgt := 73) hx hb dX7_productNow_34 (by decide) ?_
      obtain rfl := Option.some.inj hrun
      exact hret _ _ _ _ rfl dX7_productNow_73 hP hD hS
  · have hrun := it_f hc hrun
    refine lv_iconst (v := (-1)) hx hb dX7_productNow_10 (by decide) ?_
    obtain rfl := Option.some.inj hrun
    exact hret _ _ _ _ rfl dX7_productNow_11 hP hD hS
/-! ===== X7_product ===== -/
theorem mX7_product_1 : Cond.fieldLink RX7 38 "GateMazeModel" "thrown" "I" ∈ wsX7_product := List.mem_of_getElem? (i := 1) rfl
theorem iX7_product_X7 : ∀ w ∈ u_ws RX7 TX7 16, w ∈ wsX7_product := fun w h => List.mem_cons_of_mem _ (List.mem_append_right _ h)
set_option maxHeartbeats 4000000 in
set_option maxRecDepth 100000 in
theorem c_X7_product (l : Launch) (D : va_G) (kI kJ kS : ClassId) (to : Nat) (ta : Nat → Nat) (x1 : Int32) (x2 : Int32) (x3 : Int32) (z : (Nat → Int32)) (nst : Int32) (his : (Nat → Int32)) (len : Int32) (txt : (Nat → Int32)) (thr : Int32) (god : (Nat → Int64)) (prm : (Nat → Int32)) (npr : Int32) (cov : (Nat → Int32)) (siz : (Nat → Int32)) (pts : (Nat → Int32)) (rea : Int32) (pla : Int32) (bef : (Nat → Int32)) (has : Int64) {r : Int32 × Int32 × (Nat → Int64) × (Nat → Int32) × Int32 × (Nat → Int32) × (Nat → Int32)} (hrun : fX7_product z god prm npr cov siz x1 x2 x3 = some r) : cI l D (tyL kI kJ kS) false yX7_product wsX7_product (rmk 6 0 0 140) [.ref to, .int x1, .int x2, .int x3] (wX7 kI kJ to ta z nst his len txt thr god prm npr cov siz pts rea pla bef has) (wX7 kI kJ to ta z nst his len txt r.2.1 r.2.2.1 r.2.2.2.1 r.2.2.2.2.1 r.2.2.2.2.2.1 r.2.2.2.2.2.2 pts rea pla bef has) r.1 := by
  refine cI_of (cc := cX7_product) (maxL := 4) (by decide) rfl (Nat.le_of_ble_eq_true rfl) ?_
  intro p e s m av below meth c A Q ls hE hP hD hS hl hret
  have hE : ent_ p s m av meth c RX7 cX7_product 4 (some .int) wsX7_product (tyL kI kJ kS) D A false := hE
  obtain ⟨hx, hb, hml, hown, hts, hr, hlocks, hK, hA, hst⟩ := id hE
  have hl : lv_has ls 4 [(0, .ref to), (1, .int x1), (2, .int x2), (3, .int x3)] := hl
  have c_J36 : ∀ (x1 : Int32) (x2 : Int32) (x3 : Int32) (s0 : Int32) (god : (Nat → Int64)) (prm : (Nat → Int32)) (npr : Int32) (cov : (Nat → Int32)) (siz : (Nat → Int32)) (thr : Int32), fX7_product_J36 x1 x2 x3 s0 z god prm npr cov siz = some r → wAt p l e (rmk 6 0 0 140) s m av below meth c D A 4 0 0 Q 36 [.int s0, .ref to] [(0, .ref to), (1, .int x1), (2, .int x2), (3, .int x3)] (wX7 kI kJ to ta z nst his len txt thr god prm npr cov siz pts rea pla bef has) := by
    intro x1 x2 x3 s0 god prm npr cov siz thr hrun H locs ls hP hD hS hl
    unfold fX7_product_J36 at hrun
    refine va_put (D := D) (ci := 6) (v := .int s0) (ty := .int) (C := RX7) (T := TX7) (N := 16) hx hb hts iX7_product_X7 tyX7 tyX7_ok nmX7 hown hK hP hD hS 0 rfl rfl 5 (by decide) (hts _ mX7_product_1) (fun _ h9 => h9) rfl (by decide +kernel) rfl rfl (Nat.le_of_ble_eq_true rfl) dX7_product_36 (fun H locs hP hD hS => ?_)
    have hP : va_P D vwCl (wX7 kI kJ to ta z nst his len txt s0 god prm npr cov siz pts rea pla bef has) H := hP
    have hD : va_D A (wX7 kI kJ to ta z nst his len txt s0 god prm npr cov siz pts rea pla bef has) := hD
    refine lv_aload_n hx hb dX7_product_39 rfl (lv_at hl 0 rfl) ?_
    refine va_get (D := D) (ci := 6) (v := .int s0) (C := RX7) (T := TX7) (N := 16) hx hb hts iX7_product_X7 hown hK hP 0 rfl rfl 5 (by decide) (hts _ mX7_product_1) (fun _ h9 => h9) rfl dX7_product_40 ?_
    refine lv_if_le (tgt := 48) hx hb dX7_product_43 (by decide) (fun hc => ?_) (fun hc => ?_)
    · have hrun := it_t hc hrun
      refine lv_aload_n hx hb dX7_product_48 rfl (lv_at hl 0 rfl) ?_
      obtain ⟨q_1, hq_1, hrun⟩ := bd_some hrun
      refine cV_callV (As := []) (rest := []) (wr := []) (wN := (wX7 kI kJ to ta z nst his len txt s0 q_1.1 q_1.2.1 q_1.2.2.1 q_1.2.2.2.1 q_1.2.2.2.2 pts rea pla bef has)) (ci := 6) (q0 := 0) hE (c_X7_layAll l D kI kJ kS to ta  z nst his len txt s0 god prm npr cov siz pts rea pla bef has hq_1) (cwV 0 hts gX7_product_X7_layAll rfl rfl rfl (by decide +kernel) ⟨Nat.le_of_ble_eq_true rfl, Nat.le_of_ble_eq_true rfl⟩) hP hD hS [0, 1, 2, 3, 4, 5, 6, 7, 8, 9] [] [0, 1, 2, 3, 4, 5, 6, 7, 8, 9] rfl rfl rfl rfl (by decide) rfl rfl rfl rfl rfl hl.1 rfl (Nat.le_of_ble_eq_true rfl) dX7_product_49 ⟨Nat.le_of_ble_eq_true rfl, Nat.le_of_ble_eq_true rfl⟩ (fun H locs hP hD hS => ?_)
      refine lv_aload_n hx hb dX7_product_52 rfl (lv_at hl 0 rfl) ?_
      refine lv_iload_n hx hb dX7_product_53 rfl (lv_at hl 1 rfl) ?_
      refine lv_iload_n hx hb dX7_product_54 rfl (lv_at hl 2 rfl) ?_
      refine lv_iload_n hx hb dX7_product_55 rfl (lv_at hl 3 rfl) ?_
      obtain ⟨q_2, hq_2, hrun⟩ := bd_some hrun
      refine cI_callV (As := [.int x1, .int x2, .int x3]) (rest := []) (wr := []) (wN := (wX7 kI kJ to ta z nst his len txt s0 q_1.1 q_1.2.1 q_1.2.2.1 q_1.2.2.2.1 q_1.2.2.2.2 pts rea pla bef has)) (ci := 6) (q0 := 0) hE (c_X7_productNow l D kI kJ kS to ta x1 x2 x3 z nst his len txt s0 q_1.1 q_1.2.1 q_1.2.2.1 q_1.2.2.2.1 q_1.2.2.2.2 pts rea pla bef has hq_2) (cwV 3 hts gX7_product_X7_productNow rfl rfl rfl (by decide +kernel) ⟨Nat.le_of_ble_eq_true rfl, Nat.le_of_ble_eq_true rfl⟩) hP hD hS [0, 1, 2, 3, 4, 5, 6, 7, 8, 9] [] [0, 1, 2, 3, 4, 5, 6, 7, 8, 9] rfl rfl rfl rfl (by decide) rfl rfl rfl rfl rfl hl.1 rfl (Nat.le_of_ble_eq_true rfl) dX7_product_56 ⟨Nat.le_of_ble_eq_true rfl, Nat.le_of_ble_eq_true rfl⟩ (fun H locs hP hD hS => ?_)
      obtain rfl := Option.some.inj hrun
      exact hret _ _ _ _ rfl dX7_product_59 hP hD hS
    · have hrun := it_f hc hrun
      refine lv_iconst (v := 0) hx hb dX7_product_46 (by decide) ?_
      obtain rfl := Option.some.inj hrun
      exact hret _ _ _ _ rfl dX7_product_47 hP hD hS
  have c_J35 : ∀ (x1 : Int32) (x2 : Int32) (x3 : Int32) (god : (Nat → Int64)) (prm : (Nat → Int32)) (npr : Int32) (cov : (Nat → Int32)) (siz : (Nat → Int32)) (thr : Int32), fX7_product_J35 x1 x2 x3 z god prm npr cov siz = some r → wAt p l e (rmk 6 0 0 140) s m av below meth c D A 4 0 0 Q 35 [.ref to] [(0, .ref to), (1, .int x1), (2, .int x2), (3, .int x3)] (wX7 kI kJ to ta z nst his len txt thr god prm npr cov siz pts rea pla bef has) := by
    intro x1 x2 x3 god prm npr cov siz thr hrun H locs ls hP hD hS hl
    unfold fX7_product_J35 at hrun
    refine lv_iconst (v := 2) hx hb dX7_product_35 (by decide) ?_
    exact c_J36 x1 x2 x3 2 god prm npr cov siz thr hrun _ _ _ hP hD hS (lv_sub hl [0, 1, 2, 3] rfl)
  unfold fX7_product at hrun
  refine lv_aload_n hx hb dX7_product_0 rfl (lv_at hl 0 rfl) ?_
  refine lv_iload_n hx hb dX7_product_1 rfl (lv_at hl 1 rfl) ?_
  obtain ⟨q_3, hq_3, hrun⟩ := bd_some hrun
  refine cI_callS (As := [.int x1]) (rest := [.ref to]) (wr := (wX7 kI kJ to ta z nst his len txt thr god prm npr cov siz pts rea pla bef has)) (wN := (wX7 kI kJ to ta z nst his len txt thr god prm npr cov siz pts rea pla bef has)) hE (c_X7_isOutput l D kI kJ kS x1  hq_3) (va_cwS 1 hts gX7_product_X7_isOutput rfl rfl rfl (by decide +kernel) ⟨Nat.le_of_ble_eq_true rfl, Nat.le_of_ble_eq_true rfl⟩) hP hD hS [] [0, 1, 2, 3, 4, 5, 6, 7, 8, 9] [0, 1, 2, 3, 4, 5, 6, 7, 8, 9] rfl rfl rfl rfl (by decide) rfl rfl rfl hl.1 rfl (Nat.le_of_ble_eq_true rfl) dX7_product_2 ⟨Nat.le_of_ble_eq_true rfl, Nat.le_of_ble_eq_true rfl⟩ (fun H locs hP hD hS => ?_)
  refine lv_if_ne (tgt := 12) hx hb dX7_product_5 (by decide) (fun hc => ?_) (fun hc => ?_)
  · have hrun := it_f hc hrun
    refine lv_iload_n hx hb dX7_product_12 rfl (lv_at hl 2 rfl) ?_
    refine lv_iconst (v := 0) hx hb dX7_product_13 (by decide) ?_
    refine lv_bipush (v := 63) hx hb dX7_product_14 (by decide) ?_
    obtain ⟨q_4, hq_4, hrun⟩ := bd_some hrun
    refine cI_callS (As := [.int x2, .int 0, .int 63]) (rest := [.ref to]) (wr := (wX7 kI kJ to ta z nst his len txt thr god prm npr cov siz pts rea pla bef has)) (wN := (wX7 kI kJ to ta z nst his len txt thr god prm npr cov siz pts rea pla bef has)) hE (c_X7_within l D kI kJ kS x2 0 63  hq_4) (va_cwS 3 hts gX7_product_X7_within rfl rfl rfl (by decide +kernel) ⟨Nat.le_of_ble_eq_true rfl, Nat.le_of_ble_eq_true rfl⟩) hP hD hS [] [0, 1, 2, 3, 4, 5, 6, 7, 8, 9] [0, 1, 2, 3, 4, 5, 6, 7, 8, 9] rfl rfl rfl rfl (by decide) rfl rfl rfl hl.1 rfl (Nat.le_of_ble_eq_true rfl) dX7_product_16 ⟨Nat.le_of_ble_eq_true rfl, Nat.le_of_ble_eq_true rfl⟩ (fun H locs hP hD hS => ?_)
    refine lv_if_eq (tgt := 35) hx hb dX7_product_19 (by decide) (fun hc => ?_) (fun hc => ?_)
    · have hrun := it_t hc hrun
      exact c_J35 x1 x2 x3 god prm npr cov siz thr hrun _ _ _ hP hD hS (lv_sub hl [0, 1, 2, 3] rfl)
    · have hrun := it_f hc hrun
      refine lv_iload_n hx hb dX7_product_22 rfl (lv_at hl 3 rfl) ?_
      refine lv_iconst (v := 0) hx hb dX7_product_23 (by decide) ?_
      refine lv_iconst (v := 3) hx hb dX7_product_24 (by decide) ?_
      obtain ⟨q_5, hq_5, hrun⟩ := bd_some hrun
      refine cI_callS (As := [.int x3, .int 0, .int 3]) (rest := [.ref to]) (wr := (wX7 kI kJ to ta z nst his len txt thr god prm npr cov siz pts rea pla bef has)) (wN := (wX7 kI kJ to ta z nst his len txt thr god prm npr cov siz pts rea pla bef has)) hE (c_X7_within l D kI kJ kS x3 0 3  hq_5) (va_cwS 3 hts gX7_product_X7_within rfl rfl rfl (by decide +kernel) ⟨Nat.le_of_ble_eq_true rfl, Nat.le_of_ble_eq_true rfl⟩) hP hD hS [] [0, 1, 2, 3, 4, 5, 6, 7, 8, 9] [0, 1, 2, 3, 4, 5, 6, 7, 8, 9] rfl rfl rfl rfl (by decide) rfl rfl rfl hl.1 rfl (Nat.le_of_ble_eq_true rfl) dX7_product_25 ⟨Nat.le_of_ble_eq_true rfl, Nat.le_of_ble_eq_true rfl⟩ (fun H locs hP hD hS => ?_)
      refine lv_if_eq (tgt := 35) hx hb dX7_product_28 (by decide) (fun hc => ?_) (fun hc => ?_)
      · have hrun := it_t hc hrun
        exact c_J35 x1 x2 x3 god prm npr cov siz thr hrun _ _ _ hP hD hS (lv_sub hl [0, 1, 2, 3] rfl)
      · have hrun := it_f hc hrun
        refine lv_iconst (v := 0) hx hb dX7_product_31 (by decide) ?_
        refine lv_goto (tgt := 36) hx hb dX7_product_32 (by decide) ?_
        exact c_J36 x1 x2 x3 0 god prm npr cov siz thr hrun _ _ _ hP hD hS (lv_sub hl [0, 1, 2, 3] rfl)
  · have hrun := it_t hc hrun
    refine lv_iconst (v := 1) hx hb dX7_product_8 (by decide) ?_
    refine lv_goto (tgt := 36) hx hb dX7_product_9 (by decide) ?_
    exact c_J36 x1 x2 x3 1 god prm npr cov siz thr hrun _ _ _ hP hD hS (lv_sub hl [0, 1, 2, 3] rfl)
/-! ===== X7_sumOf ===== -/
theorem mX7_sumOf_1 : Cond.fieldLink RX7 7 "GateMazeModel" "z" "[I" ∈ wsX7_sumOf := List.mem_of_getElem? (i := 1) rfl
theorem iX7_sumOf_X7 : ∀ w ∈ u_ws RX7 TX7 16, w ∈ wsX7_sumOf := fun w h => List.mem_cons_of_mem _ (List.mem_append_right _ h)
set_option maxHeartbeats 4000000 in
set_option maxRecDepth 100000 in
theorem c_X7_sumOf (l : Launch) (D : va_G) (kI kJ kS : ClassId) (to : Nat) (ta : Nat → Nat) (x1 : Int32) (z : (Nat → Int32)) (nst : Int32) (his : (Nat → Int32)) (len : Int32) (txt : (Nat → Int32)) (thr : Int32) (god : (Nat → Int64)) (prm : (Nat → Int32)) (npr : Int32) (cov : (Nat → Int32)) (siz : (Nat → Int32)) (pts : (Nat → Int32)) (rea : Int32) (pla : Int32) (bef : (Nat → Int32)) (has : Int64) {r : Int32} (hrun : fX7_sumOf z x1 = some r) : cI l D (tyL kI kJ kS) false yX7_sumOf wsX7_sumOf (rmk 0 0 0 0) [.ref to, .int x1] (wX7 kI kJ to ta z nst his len txt thr god prm npr cov siz pts rea pla bef has) (wX7 kI kJ to ta z nst his len txt thr god prm npr cov siz pts rea pla bef has) r := by
  refine cI_of (cc := cX7_sumOf) (maxL := 4) (by decide) rfl (Nat.le_of_ble_eq_true rfl) ?_
  intro p e s m av below meth c A Q ls hE hP hD hS hl hret
  have hE : ent_ p s m av meth c RX7 cX7_sumOf 4 (some .int) wsX7_sumOf (tyL kI kJ kS) D A false := hE
  obtain ⟨hx, hb, hml, hown, hts, hr, hlocks, hK, hA, hst⟩ := id hE
  have hl : lv_has ls 4 [(0, .ref to), (1, .int x1)] := hl
  have c_L4 : ∀ (x1 : Int32) (n : Nat) (x2 : Int32) (x3 : Int32), fX7_sumOf_L4 x1 z n x2 x3 = some r → wAt p l e (rmk 0 0 0 0) s m av below meth c D A 4 0 0 Q 4 [] [(0, .ref to), (1, .int x1), (2, .int x2), (3, .int x3)] (wX7 kI kJ to ta z nst his len txt thr god prm npr cov siz pts rea pla bef has) := by
    intro x1 n
    induction n with
    | zero =>
      intro x2 x3 hrun
      rw [fX7_sumOf_L4] at hrun
      cases hrun
    | succ n ih =>
      intro x2 x3 hrun H locs ls hP hD hS hl
      rw [fX7_sumOf_L4] at hrun
      refine lv_iload_n hx hb dX7_sumOf_4 rfl (lv_at hl 3 rfl) ?_
      refine lv_iconst (v := 4) hx hb dX7_sumOf_5 (by decide) ?_
      refine lv_icmp_ge (tgt := 26) hx hb dX7_sumOf_6 (by decide) (fun hc => ?_) (fun hc => ?_)
      · have hrun := it_t hc hrun
        refine lv_iload_n hx hb dX7_sumOf_26 rfl (lv_at hl 2 rfl) ?_
        obtain rfl := Option.some.inj hrun
        exact hret _ _ _ _ rfl dX7_sumOf_27 hP hD hS
      · have hrun := it_f hc hrun
        refine lv_iload_n hx hb dX7_sumOf_9 rfl (lv_at hl 2 rfl) ?_
        refine lv_aload_n hx hb dX7_sumOf_10 rfl (lv_at hl 0 rfl) ?_
        refine va_get (D := D) (ci := 6) (v := .ref (ta 0)) (C := RX7) (T := TX7) (N := 16) hx hb hts iX7_sumOf_X7 hown hK hP 0 rfl rfl 0 (by decide) (hts _ mX7_sumOf_1) (fun _ h9 => h9) rfl dX7_sumOf_11 ?_
        refine lv_iload_n hx hb dX7_sumOf_14 rfl (lv_at hl 1 rfl) ?_
        refine lv_iload_n hx hb dX7_sumOf_15 rfl (lv_at hl 3 rfl) ?_
        refine lv_iadd hx hb dX7_sumOf_16 ?_
        obtain ⟨hin, hrun⟩ := gd_some hrun
        refine va_iald hx hb hK hP 1 0 rfl rfl hin dX7_sumOf_17 ?_
        refine lv_iadd hx hb dX7_sumOf_18 ?_
        refine lv_istore_n (lv' := [(2, .int (x2 + (z (x1 + x3).toNatClampNeg))), (0, .ref to), (1, .int x1), (3, .int x3)]) hx hb dX7_sumOf_19 rfl hl (by decide) rfl (fun ls hl => ?_)
        refine lv_iinc (v := x3 + 1) (lv' := [(3, .int (x3 + 1)), (2, .int (x2 + (z (x1 + x3).toNatClampNeg))), (0, .ref to), (1, .int x1)]) hx hb dX7_sumOf_20 hl (k := 3) rfl rfl (by decide) rfl (fun ls hl => ?_)
        refine lv_goto (tgt := 4) hx hb dX7_sumOf_23 (by decide) ?_
        exact ih (x2 + (z (x1 + x3).toNatClampNeg)) (x3 + 1)  hrun _ _ _ hP hD hS (lv_sub hl [2, 3, 1, 0] rfl)
  unfold fX7_sumOf at hrun
  refine lv_iconst (v := 0) hx hb dX7_sumOf_0 (by decide) ?_
  refine lv_istore_n (lv' := [(2, .int 0), (0, .ref to), (1, .int x1)]) hx hb dX7_sumOf_1 rfl hl (by decide) rfl (fun ls hl => ?_)
  refine lv_iconst (v := 0) hx hb dX7_sumOf_2 (by decide) ?_
  refine lv_istore_n (lv' := [(3, .int 0), (2, .int 0), (0, .ref to), (1, .int x1)]) hx hb dX7_sumOf_3 rfl hl (by decide) rfl (fun ls hl => ?_)
  exact c_L4 x1 5000 0 0  hrun _ _ _ hP hD hS (lv_sub hl [2, 3, 1, 0] rfl)
/-! ===== X7_counted ===== -/
theorem mX7_counted_1 : Cond.fieldLink RX7 7 "GateMazeModel" "z" "[I" ∈ wsX7_counted := List.mem_of_getElem? (i := 1) rfl
theorem mX7_counted_2 : Cond.fieldLink RX7 42 "GateMazeModel" "states" "I" ∈ wsX7_counted := List.mem_of_getElem? (i := 2) rfl
theorem iX7_counted_X7 : ∀ w ∈ u_ws RX7 TX7 16, w ∈ wsX7_counted := fun w h => List.mem_cons_of_mem _ (List.mem_append_right _ h)
set_option maxHeartbeats 4000000 in
set_option maxRecDepth 100000 in
theorem c_X7_counted (l : Launch) (D : va_G) (kI kJ kS : ClassId) (to : Nat) (ta : Nat → Nat) (x1 : Int32) (z : (Nat → Int32)) (nst : Int32) (his : (Nat → Int32)) (len : Int32) (txt : (Nat → Int32)) (thr : Int32) (god : (Nat → Int64)) (prm : (Nat → Int32)) (npr : Int32) (cov : (Nat → Int32)) (siz : (Nat → Int32)) (pts : (Nat → Int32)) (rea : Int32) (pla : Int32) (bef : (Nat → Int32)) (has : Int64) {r : Int32} (hrun : fX7_counted z nst cov siz x1 = some r) : cI l D (tyL kI kJ kS) false yX7_counted wsX7_counted (rmk 4 0 0 93) [.ref to, .int x1] (wX7 kI kJ to ta z nst his len txt thr god prm npr cov siz pts rea pla bef has) (wX7 kI kJ to ta z nst his len txt thr god prm npr cov siz pts rea pla bef has) r := by
  refine cI_of (cc := cX7_counted) (maxL := 2) (by decide) rfl (Nat.le_of_ble_eq_true rfl) ?_
  intro p e s m av below meth c A Q ls hE hP hD hS hl hret
  have hE : ent_ p s m av meth c RX7 cX7_counted 2 (some .int) wsX7_counted (tyL kI kJ kS) D A false := hE
  obtain ⟨hx, hb, hml, hown, hts, hr, hlocks, hK, hA, hst⟩ := id hE
  have hl : lv_has ls 2 [(0, .ref to), (1, .int x1)] := hl
  unfold fX7_counted at hrun
  refine lv_iload_n hx hb dX7_counted_0 rfl (lv_at hl 1 rfl) ?_
  by_cases hs0 : x1 = 0
  · have hrun := it_t hs0 hrun
    refine lv_tableV (v := 0) (tgt := 56) hx hb dX7_counted_1 hs0 (by decide) (by decide) rfl (by decide) ?_
    refine lv_aload_n hx hb dX7_counted_56 rfl (lv_at hl 0 rfl) ?_
    refine va_get (D := D) (ci := 6) (v := .ref (ta 0)) (C := RX7) (T := TX7) (N := 16) hx hb hts iX7_counted_X7 hown hK hP 0 rfl rfl 0 (by decide) (hts _ mX7_counted_1) (fun _ h9 => h9) rfl dX7_counted_57 ?_
    refine lv_iconst (v := 0) hx hb dX7_counted_60 (by decide) ?_
    obtain ⟨hin, hrun⟩ := gd_some hrun
    refine va_iald hx hb hK hP 1 0 rfl rfl hin dX7_counted_61 ?_
    obtain rfl := Option.some.inj hrun
    exact hret _ _ _ _ rfl dX7_counted_62 hP hD hS
  have hrun := it_f hs0 hrun
  by_cases hs1 : x1 = 1
  · have hrun := it_t hs1 hrun
    refine lv_tableV (v := 1) (tgt := 63) hx hb dX7_counted_1 hs1 (by decide) (by decide) rfl (by decide) ?_
    refine lv_aload_n hx hb dX7_counted_63 rfl (lv_at hl 0 rfl) ?_
    refine va_get (D := D) (ci := 6) (v := .ref (ta 0)) (C := RX7) (T := TX7) (N := 16) hx hb hts iX7_counted_X7 hown hK hP 0 rfl rfl 0 (by decide) (hts _ mX7_counted_1) (fun _ h9 => h9) rfl dX7_counted_64 ?_
    refine lv_iconst (v := 1) hx hb dX7_counted_67 (by decide) ?_
    obtain ⟨hin, hrun⟩ := gd_some hrun
    refine va_iald hx hb hK hP 1 0 rfl rfl hin dX7_counted_68 ?_
    obtain rfl := Option.some.inj hrun
    exact hret _ _ _ _ rfl dX7_counted_69 hP hD hS
  have hrun := it_f hs1 hrun
  by_cases hs2 : x1 = 2
  · have hrun := it_t hs2 hrun
    refine lv_tableV (v := 2) (tgt := 70) hx hb dX7_counted_1 hs2 (by decide) (by decide) rfl (by decide) ?_
    refine lv_aload_n hx hb dX7_counted_70 rfl (lv_at hl 0 rfl) ?_
    obtain ⟨q_1, hq_1, hrun⟩ := bd_some hrun
    refine cI_callV (As := []) (rest := []) (wr := []) (wN := (wX7 kI kJ to ta z nst his len txt thr god prm npr cov siz pts rea pla bef has)) (ci := 6) (q0 := 0) hE (c_X7_undecided l D kI kJ kS to ta  z nst his len txt thr god prm npr cov siz pts rea pla bef has hq_1) (cwV 0 hts gX7_counted_X7_undecided rfl rfl rfl (by decide +kernel) ⟨Nat.le_of_ble_eq_true rfl, Nat.le_of_ble_eq_true rfl⟩) hP hD hS [0, 1, 2, 3, 4, 5, 6, 7, 8, 9] [] [0, 1, 2, 3, 4, 5, 6, 7, 8, 9] rfl rfl rfl rfl (by decide) rfl rfl rfl rfl rfl hl.1 rfl (Nat.le_of_ble_eq_true rfl) dX7_counted_71 ⟨Nat.le_of_ble_eq_true rfl, Nat.le_of_ble_eq_true rfl⟩ (fun H locs hP hD hS => ?_)
    obtain rfl := Option.some.inj hrun
    exact hret _ _ _ _ rfl dX7_counted_74 hP hD hS
  have hrun := it_f hs2 hrun
  by_cases hs3 : x1 = 3
  · have hrun := it_t hs3 hrun
    refine lv_tableV (v := 3) (tgt := 75) hx hb dX7_counted_1 hs3 (by decide) (by decide) rfl (by decide) ?_
    refine lv_aload_n hx hb dX7_counted_75 rfl (lv_at hl 0 rfl) ?_
    refine lv_iload_n hx hb dX7_counted_76 rfl (lv_at hl 1 rfl) ?_
    refine lv_iconst (v := 3) hx hb dX7_counted_77 (by decide) ?_
    refine lv_isub hx hb dX7_counted_78 ?_
    obtain ⟨q_2, hq_2, hrun⟩ := bd_some hrun
    refine cI_callV (As := [.int (x1 - 3)]) (rest := []) (wr := []) (wN := (wX7 kI kJ to ta z nst his len txt thr god prm npr cov siz pts rea pla bef has)) (ci := 6) (q0 := 0) hE (c_X7_partsOf l D kI kJ kS to ta (x1 - 3) z nst his len txt thr god prm npr cov siz pts rea pla bef has hq_2) (cwV 1 hts gX7_counted_X7_partsOf rfl rfl rfl (by decide +kernel) ⟨Nat.le_of_ble_eq_true rfl, Nat.le_of_ble_eq_true rfl⟩) hP hD hS [0, 1, 2, 3, 4, 5, 6, 7, 8, 9] [] [0, 1, 2, 3, 4, 5, 6, 7, 8, 9] rfl rfl rfl rfl (by decide) rfl rfl rfl rfl rfl hl.1 rfl (Nat.le_of_ble_eq_true rfl) dX7_counted_79 ⟨Nat.le_of_ble_eq_true rfl, Nat.le_of_ble_eq_true rfl⟩ (fun H locs hP hD hS => ?_)
    obtain rfl := Option.some.inj hrun
    exact hret _ _ _ _ rfl dX7_counted_82 hP hD hS
  have hrun := it_f hs3 hrun
  by_cases hs4 : x1 = 4
  · have hrun := it_t hs4 hrun
    refine lv_tableV (v := 4) (tgt := 75) hx hb dX7_counted_1 hs4 (by decide) (by decide) rfl (by decide) ?_
    refine lv_aload_n hx hb dX7_counted_75 rfl (lv_at hl 0 rfl) ?_
    refine lv_iload_n hx hb dX7_counted_76 rfl (lv_at hl 1 rfl) ?_
    refine lv_iconst (v := 3) hx hb dX7_counted_77 (by decide) ?_
    refine lv_isub hx hb dX7_counted_78 ?_
    obtain ⟨q_3, hq_3, hrun⟩ := bd_some hrun
    refine cI_callV (As := [.int (x1 - 3)]) (rest := []) (wr := []) (wN := (wX7 kI kJ to ta z nst his len txt thr god prm npr cov siz pts rea pla bef has)) (ci := 6) (q0 := 0) hE (c_X7_partsOf l D kI kJ kS to ta (x1 - 3) z nst his len txt thr god prm npr cov siz pts rea pla bef has hq_3) (cwV 1 hts gX7_counted_X7_partsOf rfl rfl rfl (by decide +kernel) ⟨Nat.le_of_ble_eq_true rfl, Nat.le_of_ble_eq_true rfl⟩) hP hD hS [0, 1, 2, 3, 4, 5, 6, 7, 8, 9] [] [0, 1, 2, 3, 4, 5, 6, 7, 8, 9] rfl rfl rfl rfl (by decide) rfl rfl rfl rfl rfl hl.1 rfl (Nat.le_of_ble_eq_true rfl) dX7_counted_79 ⟨Nat.le_of_ble_eq_true rfl, Nat.le_of_ble_eq_true rfl⟩ (fun H locs hP hD hS => ?_)
    obtain rfl := Option.some.inj hrun
    exact hret _ _ _ _ rfl dX7_counted_82 hP hD hS
  have hrun := it_f hs4 hrun
  by_cases hs5 : x1 = 5
  · have hrun := it_t hs5 hrun
    refine lv_tableV (v := 5) (tgt := 75) hx hb dX7_counted_1 hs5 (by decide) (by decide) rfl (by decide) ?_
    refine lv_aload_n hx hb dX7_counted_75 rfl (lv_at hl 0 rfl) ?_
    refine lv_iload_n hx hb dX7_counted_76 rfl (lv_at hl 1 rfl) ?_
    refine lv_iconst (v := 3) hx hb dX7_counted_77 (by decide) ?_
    refine lv_isub hx hb dX7_counted_78 ?_
    obtain ⟨q_4, hq_4, hrun⟩ := bd_some hrun
    refine cI_callV (As := [.int (x1 - 3)]) (rest := []) (wr := []) (wN := (wX7 kI kJ to ta z nst his len txt thr god prm npr cov siz pts rea pla bef has)) (ci := 6) (q0 := 0) hE (c_X7_partsOf l D kI kJ kS to ta (x1 - 3) z nst his len txt thr god prm npr cov siz pts rea pla bef has hq_4) (cwV 1 hts gX7_counted_X7_partsOf rfl rfl rfl (by decide +kernel) ⟨Nat.le_of_ble_eq_true rfl, Nat.le_of_ble_eq_true rfl⟩) hP hD hS [0, 1, 2, 3, 4, 5, 6, 7, 8, 9] [] [0, 1, 2, 3, 4, 5, 6, 7, 8, 9] rfl rfl rfl rfl (by decide) rfl rfl rfl rfl rfl hl.1 rfl (Nat.le_of_ble_eq_true rfl) dX7_counted_79 ⟨Nat.le_of_ble_eq_true rfl, Nat.le_of_ble_eq_true rfl⟩ (fun H locs hP hD hS => ?_)
    obtain rfl := Option.some.inj hrun
    exact hret _ _ _ _ rfl dX7_counted_82 hP hD hS
  have hrun := it_f hs5 hrun
  by_cases hs6 : x1 = 6
  · have hrun := it_t hs6 hrun
    refine lv_tableV (v := 6) (tgt := 83) hx hb dX7_counted_1 hs6 (by decide) (by decide) rfl (by decide) ?_
    refine lv_aload_n hx hb dX7_counted_83 rfl (lv_at hl 0 rfl) ?_
    refine va_get (D := D) (ci := 6) (v := .ref (ta 0)) (C := RX7) (T := TX7) (N := 16) hx hb hts iX7_counted_X7 hown hK hP 0 rfl rfl 0 (by decide) (hts _ mX7_counted_1) (fun _ h9 => h9) rfl dX7_counted_84 ?_
    refine lv_iconst (v := 2) hx hb dX7_counted_87 (by decide) ?_
    obtain ⟨hin, hrun⟩ := gd_some hrun
    refine va_iald hx hb hK hP 1 0 rfl rfl hin dX7_counted_88 ?_
    obtain rfl := Option.some.inj hrun
    exact hret _ _ _ _ rfl dX7_counted_89 hP hD hS
  have hrun := it_f hs6 hrun
  by_cases hs7 : x1 = 7
  · have hrun := it_t hs7 hrun
    refine lv_tableV (v := 7) (tgt := 90) hx hb dX7_counted_1 hs7 (by decide) (by decide) rfl (by decide) ?_
    refine lv_aload_n hx hb dX7_counted_90 rfl (lv_at hl 0 rfl) ?_
    refine lv_iconst (v := 4) hx hb dX7_counted_91 (by decide) ?_
    obtain ⟨q_5, hq_5, hrun⟩ := bd_some hrun
    refine cI_callV (As := [.int 4]) (rest := []) (wr := []) (wN := (wX7 kI kJ to ta z nst his len txt thr god prm npr cov siz pts rea pla bef has)) (ci := 6) (q0 := 0) hE (c_X7_sumOf l D kI kJ kS to ta 4 z nst his len txt thr god prm npr cov siz pts rea pla bef has hq_5) (cwV 1 hts gX7_counted_X7_sumOf rfl rfl rfl (by decide +kernel) ⟨Nat.le_of_ble_eq_true rfl, Nat.le_of_ble_eq_true rfl⟩) hP hD hS [0, 1, 2, 3, 4, 5, 6, 7, 8, 9] [] [0, 1, 2, 3, 4, 5, 6, 7, 8, 9] rfl rfl rfl rfl (by decide) rfl rfl rfl rfl rfl hl.1 rfl (Nat.le_of_ble_eq_true rfl) dX7_counted_92 ⟨Nat.le_of_ble_eq_true rfl, Nat.le_of_ble_eq_true rfl⟩ (fun H locs hP hD hS => ?_)
    obtain rfl := Option.some.inj hrun
    exact hret _ _ _ _ rfl dX7_counted_95 hP hD hS
  have hrun := it_f hs7 hrun
  by_cases hs8 : x1 = 8
  · have hrun := it_t hs8 hrun
    refine lv_tableV (v := 8) (tgt := 96) hx hb dX7_counted_1 hs8 (by decide) (by decide) rfl (by decide) ?_
    refine lv_aload_n hx hb dX7_counted_96 rfl (lv_at hl 0 rfl) ?_
    refine lv_bipush (v := 8) hx hb dX7_counted_97 (by decide) ?_
    obtain ⟨q_6, hq_6, hrun⟩ := bd_some hrun
    refine cI_callV (As := [.int 8]) (rest := []) (wr := []) (wN := (wX7 kI kJ to ta z nst his len txt thr god prm npr cov siz pts rea pla bef has)) (ci := 6) (q0 := 0) hE (c_X7_sumOf l D kI kJ kS to ta 8 z nst his len txt thr god prm npr cov siz pts rea pla bef has hq_6) (cwV 1 hts gX7_counted_X7_sumOf rfl rfl rfl (by decide +kernel) ⟨Nat.le_of_ble_eq_true rfl, Nat.le_of_ble_eq_true rfl⟩) hP hD hS [0, 1, 2, 3, 4, 5, 6, 7, 8, 9] [] [0, 1, 2, 3, 4, 5, 6, 7, 8, 9] rfl rfl rfl rfl (by decide) rfl rfl rfl rfl rfl hl.1 rfl (Nat.le_of_ble_eq_true rfl) dX7_counted_99 ⟨Nat.le_of_ble_eq_true rfl, Nat.le_of_ble_eq_true rfl⟩ (fun H locs hP hD hS => ?_)
    obtain rfl := Option.some.inj hrun
    exact hret _ _ _ _ rfl dX7_counted_102 hP hD hS
  have hrun := it_f hs8 hrun
  by_cases hs9 : x1 = 9
  · have hrun := it_t hs9 hrun
    refine lv_tableV (v := 9) (tgt := 103) hx hb dX7_counted_1 hs9 (by decide) (by decide) rfl (by decide) ?_
    refine lv_aload_n hx hb dX7_counted_103 rfl (lv_at hl 0 rfl) ?_
    refine va_get (D := D) (ci := 6) (v := .ref (ta 0)) (C := RX7) (T := TX7) (N := 16) hx hb hts iX7_counted_X7 hown hK hP 0 rfl rfl 0 (by decide) (hts _ mX7_counted_1) (fun _ h9 => h9) rfl dX7_counted_104 ?_
    refine lv_iconst (v := 3) hx hb dX7_counted_107 (by decide) ?_
    obtain ⟨hin, hrun⟩ := gd_some hrun
    refine va_iald hx hb hK hP 1 0 rfl rfl hin dX7_counted_108 ?_
    obtain rfl := Option.some.inj hrun
    exact hret _ _ _ _ rfl dX7_counted_109 hP hD hS
  have hrun := it_f hs9 hrun
  refine lv_tableOut (tgt := 110) hx hb dX7_counted_1 (sw_out [0, 1, 2, 3, 4, 5, 6, 7, 8, 9] (by decide) (by decide) (by decide) (⟨hs0, hs1, hs2, hs3, hs4, hs5, hs6, hs7, hs8, hs9, trivial⟩)) (by decide) ?_
  refine lv_aload_n hx hb dX7_counted_110 rfl (lv_at hl 0 rfl) ?_
  refine va_get (D := D) (ci := 6) (v := .int nst) (C := RX7) (T := TX7) (N := 16) hx hb hts iX7_counted_X7 hown hK hP 0 rfl rfl 1 (by decide) (hts _ mX7_counted_2) (fun _ h9 => h9) rfl dX7_counted_111 ?_
  obtain rfl := Option.some.inj hrun
  exact hret _ _ _ _ rfl dX7_counted_114 hP hD hS
/-! ===== X7_count ===== -/
theorem mX7_count_1 : Cond.fieldLink RX7 38 "GateMazeModel" "thrown" "I" ∈ wsX7_count := List.mem_of_getElem? (i := 1) rfl
theorem iX7_count_X7 : ∀ w ∈ u_ws RX7 TX7 16, w ∈ wsX7_count := fun w h => List.mem_cons_of_mem _ (List.mem_append_right _ h)
set_option maxHeartbeats 4000000 in
set_option maxRecDepth 100000 in
theorem c_X7_count (l : Launch) (D : va_G) (kI kJ kS : ClassId) (to : Nat) (ta : Nat → Nat) (x1 : Int32) (z : (Nat → Int32)) (nst : Int32) (his : (Nat → Int32)) (len : Int32) (txt : (Nat → Int32)) (thr : Int32) (god : (Nat → Int64)) (prm : (Nat → Int32)) (npr : Int32) (cov : (Nat → Int32)) (siz : (Nat → Int32)) (pts : (Nat → Int32)) (rea : Int32) (pla : Int32) (bef : (Nat → Int32)) (has : Int64) {r : Int32 × Int32 × (Nat → Int64) × (Nat → Int32) × Int32 × (Nat → Int32) × (Nat → Int32)} (hrun : fX7_count z nst god prm npr cov siz x1 = some r) : cI l D (tyL kI kJ kS) false yX7_count wsX7_count (rmk 6 0 0 140) [.ref to, .int x1] (wX7 kI kJ to ta z nst his len txt thr god prm npr cov siz pts rea pla bef has) (wX7 kI kJ to ta z nst his len txt r.2.1 r.2.2.1 r.2.2.2.1 r.2.2.2.2.1 r.2.2.2.2.2.1 r.2.2.2.2.2.2 pts rea pla bef has) r.1 := by
  refine cI_of (cc := cX7_count) (maxL := 2) (by decide) rfl (Nat.le_of_ble_eq_true rfl) ?_
  intro p e s m av below meth c A Q ls hE hP hD hS hl hret
  have hE : ent_ p s m av meth c RX7 cX7_count 2 (some .int) wsX7_count (tyL kI kJ kS) D A false := hE
  obtain ⟨hx, hb, hml, hown, hts, hr, hlocks, hK, hA, hst⟩ := id hE
  have hl : lv_has ls 2 [(0, .ref to), (1, .int x1)] := hl
  have c_J16 : ∀ (x1 : Int32) (s0 : Int32) (god : (Nat → Int64)) (prm : (Nat → Int32)) (npr : Int32) (cov : (Nat → Int32)) (siz : (Nat → Int32)) (thr : Int32), fX7_count_J16 x1 s0 z nst god prm npr cov siz = some r → wAt p l e (rmk 6 0 0 140) s m av below meth c D A 2 0 0 Q 16 [.int s0, .ref to] [(0, .ref to), (1, .int x1)] (wX7 kI kJ to ta z nst his len txt thr god prm npr cov siz pts rea pla bef has) := by
    intro x1 s0 god prm npr cov siz thr hrun H locs ls hP hD hS hl
    unfold fX7_count_J16 at hrun
    refine va_put (D := D) (ci := 6) (v := .int s0) (ty := .int) (C := RX7) (T := TX7) (N := 16) hx hb hts iX7_count_X7 tyX7 tyX7_ok nmX7 hown hK hP hD hS 0 rfl rfl 5 (by decide) (hts _ mX7_count_1) (fun _ h9 => h9) rfl (by decide +kernel) rfl rfl (Nat.le_of_ble_eq_true rfl) dX7_count_16 (fun H locs hP hD hS => ?_)
    have hP : va_P D vwCl (wX7 kI kJ to ta z nst his len txt s0 god prm npr cov siz pts rea pla bef has) H := hP
    have hD : va_D A (wX7 kI kJ to ta z nst his len txt s0 god prm npr cov siz pts rea pla bef has) := hD
    refine lv_aload_n hx hb dX7_count_19 rfl (lv_at hl 0 rfl) ?_
    refine va_get (D := D) (ci := 6) (v := .int s0) (C := RX7) (T := TX7) (N := 16) hx hb hts iX7_count_X7 hown hK hP 0 rfl rfl 5 (by decide) (hts _ mX7_count_1) (fun _ h9 => h9) rfl dX7_count_20 ?_
    refine lv_if_le (tgt := 28) hx hb dX7_count_23 (by decide) (fun hc => ?_) (fun hc => ?_)
    · have hrun := it_t hc hrun
      refine lv_aload_n hx hb dX7_count_28 rfl (lv_at hl 0 rfl) ?_
      obtain ⟨q_1, hq_1, hrun⟩ := bd_some hrun
      refine cV_callV (As := []) (rest := []) (wr := []) (wN := (wX7 kI kJ to ta z nst his len txt s0 q_1.1 q_1.2.1 q_1.2.2.1 q_1.2.2.2.1 q_1.2.2.2.2 pts rea pla bef has)) (ci := 6) (q0 := 0) hE (c_X7_layAll l D kI kJ kS to ta  z nst his len txt s0 god prm npr cov siz pts rea pla bef has hq_1) (cwV 0 hts gX7_count_X7_layAll rfl rfl rfl (by decide +kernel) ⟨Nat.le_of_ble_eq_true rfl, Nat.le_of_ble_eq_true rfl⟩) hP hD hS [0, 1, 2, 3, 4, 5, 6, 7, 8, 9] [] [0, 1, 2, 3, 4, 5, 6, 7, 8, 9] rfl rfl rfl rfl (by decide) rfl rfl rfl rfl rfl hl.1 rfl (Nat.le_of_ble_eq_true rfl) dX7_count_29 ⟨Nat.le_of_ble_eq_true rfl, Nat.le_of_ble_eq_true rfl⟩ (fun H locs hP hD hS => ?_)
      refine lv_aload_n hx hb dX7_count_32 rfl (lv_at hl 0 rfl) ?_
      refine lv_iload_n hx hb dX7_count_33 rfl (lv_at hl 1 rfl) ?_
      obtain ⟨q_2, hq_2, hrun⟩ := bd_some hrun
      refine cI_callV (As := [.int x1]) (rest := []) (wr := []) (wN := (wX7 kI kJ to ta z nst his len txt s0 q_1.1 q_1.2.1 q_1.2.2.1 q_1.2.2.2.1 q_1.2.2.2.2 pts rea pla bef has)) (ci := 6) (q0 := 0) hE (c_X7_counted l D kI kJ kS to ta x1 z nst his len txt s0 q_1.1 q_1.2.1 q_1.2.2.1 q_1.2.2.2.1 q_1.2.2.2.2 pts rea pla bef has hq_2) (cwV 1 hts gX7_count_X7_counted rfl rfl rfl (by decide +kernel) ⟨Nat.le_of_ble_eq_true rfl, Nat.le_of_ble_eq_true rfl⟩) hP hD hS [0, 1, 2, 3, 4, 5, 6, 7, 8, 9] [] [0, 1, 2, 3, 4, 5, 6, 7, 8, 9] rfl rfl rfl rfl (by decide) rfl rfl rfl rfl rfl hl.1 rfl (Nat.le_of_ble_eq_true rfl) dX7_count_34 ⟨Nat.le_of_ble_eq_true rfl, Nat.le_of_ble_eq_true rfl⟩ (fun H locs hP hD hS => ?_)
      obtain rfl := Option.some.inj hrun
      exact hret _ _ _ _ rfl dX7_count_37 hP hD hS
    · have hrun := it_f hc hrun
      refine lv_iconst (v := 0) hx hb dX7_count_26 (by decide) ?_
      obtain rfl := Option.some.inj hrun
      exact hret _ _ _ _ rfl dX7_count_27 hP hD hS
  unfold fX7_count at hrun
  refine lv_aload_n hx hb dX7_count_0 rfl (lv_at hl 0 rfl) ?_
  refine lv_iload_n hx hb dX7_count_1 rfl (lv_at hl 1 rfl) ?_
  refine lv_iconst (v := 0) hx hb dX7_count_2 (by decide) ?_
  refine lv_bipush (v := 10) hx hb dX7_count_3 (by decide) ?_
  obtain ⟨q_3, hq_3, hrun⟩ := bd_some hrun
  refine cI_callS (As := [.int x1, .int 0, .int 10]) (rest := [.ref to]) (wr := (wX7 kI kJ to ta z nst his len txt thr god prm npr cov siz pts rea pla bef has)) (wN := (wX7 kI kJ to ta z nst his len txt thr god prm npr cov siz pts rea pla bef has)) hE (c_X7_within l D kI kJ kS x1 0 10  hq_3) (va_cwS 3 hts gX7_count_X7_within rfl rfl rfl (by decide +kernel) ⟨Nat.le_of_ble_eq_true rfl, Nat.le_of_ble_eq_true rfl⟩) hP hD hS [] [0, 1, 2, 3, 4, 5, 6, 7, 8, 9] [0, 1, 2, 3, 4, 5, 6, 7, 8, 9] rfl rfl rfl rfl (by decide) rfl rfl rfl hl.1 rfl (Nat.le_of_ble_eq_true rfl) dX7_count_5 ⟨Nat.le_of_ble_eq_true rfl, Nat.le_of_ble_eq_true rfl⟩ (fun H locs hP hD hS => ?_)
  refine lv_if_eq (tgt := 15) hx hb dX7_count_8 (by decide) (fun hc => ?_) (fun hc => ?_)
  · have hrun := it_t hc hrun
    refine lv_iconst (v := 1) hx hb dX7_count_15 (by decide) ?_
    exact c_J16 x1 1 god prm npr cov siz thr hrun _ _ _ hP hD hS (lv_sub hl [0, 1] rfl)
  · have hrun := it_f hc hrun
    refine lv_iconst (v := 0) hx hb dX7_count_11 (by decide) ?_
    refine lv_goto (tgt := 16) hx hb dX7_count_12 (by decide) ?_
    exact c_J16 x1 0 god prm npr cov siz thr hrun _ _ _ hP hD hS (lv_sub hl [0, 1] rfl)
/-! ===== X7_forgottenThen ===== -/
theorem mX7_forgottenThen_1 : Cond.fieldLink RX7 7 "GateMazeModel" "z" "[I" ∈ wsX7_forgottenThen := List.mem_of_getElem? (i := 1) rfl
theorem iX7_forgottenThen_X7 : ∀ w ∈ u_ws RX7 TX7 16, w ∈ wsX7_forgottenThen := fun w h => List.mem_cons_of_mem _ (List.mem_append_right _ h)
set_option maxHeartbeats 4000000 in
set_option maxRecDepth 100000 in
theorem c_X7_forgottenThen (l : Launch) (D : va_G) (kI kJ kS : ClassId) (to : Nat) (ta : Nat → Nat) (x1 : Int32) (x2 : Int32) (z : (Nat → Int32)) (nst : Int32) (his : (Nat → Int32)) (len : Int32) (txt : (Nat → Int32)) (thr : Int32) (god : (Nat → Int64)) (prm : (Nat → Int32)) (npr : Int32) (cov : (Nat → Int32)) (siz : (Nat → Int32)) (pts : (Nat → Int32)) (rea : Int32) (pla : Int32) (bef : (Nat → Int32)) (has : Int64) {r : Int32 × (Nat → Int32) × (Nat → Int64) × (Nat → Int32) × Int32 × (Nat → Int32) × (Nat → Int32)} (hrun : fX7_forgottenThen z god prm npr cov siz x1 x2 = some r) : cI l D (tyL kI kJ kS) false yX7_forgottenThen wsX7_forgottenThen (rmk 6 0 0 140) [.ref to, .int x1, .int x2] (wX7 kI kJ to ta z nst his len txt thr god prm npr cov siz pts rea pla bef has) (wX7 kI kJ to ta r.2.1 nst his len txt thr r.2.2.1 r.2.2.2.1 r.2.2.2.2.1 r.2.2.2.2.2.1 r.2.2.2.2.2.2 pts rea pla bef has) r.1 := by
  refine cI_of (cc := cX7_forgottenThen) (maxL := 4) (by decide) rfl (Nat.le_of_ble_eq_true rfl) ?_
  intro p e s m av below meth c A Q ls hE hP hD hS hl hret
  have hE : ent_ p s m av meth c RX7 cX7_forgottenThen 4 (some .int) wsX7_forgottenThen (tyL kI kJ kS) D A false := hE
  obtain ⟨hx, hb, hml, hown, hts, hr, hlocks, hK, hA, hst⟩ := id hE
  have hl : lv_has ls 4 [(0, .ref to), (1, .int x1), (2, .int x2)] := hl
  unfold fX7_forgottenThen at hrun
  refine lv_aload_n hx hb dX7_forgottenThen_0 rfl (lv_at hl 0 rfl) ?_
  refine lv_iload_n hx hb dX7_forgottenThen_1 rfl (lv_at hl 1 rfl) ?_
  obtain ⟨q_1, hq_1, hrun⟩ := bd_some hrun
  refine cI_callV (As := [.int x1]) (rest := []) (wr := []) (wN := (wX7 kI kJ to ta z nst his len txt thr god prm npr cov siz pts rea pla bef has)) (ci := 6) (q0 := 0) hE (c_X7_isKnown l D kI kJ kS to ta x1 z nst his len txt thr god prm npr cov siz pts rea pla bef has hq_1) (cwV 1 hts gX7_forgottenThen_X7_isKnown rfl rfl rfl (by decide +kernel) ⟨Nat.le_of_ble_eq_true rfl, Nat.le_of_ble_eq_true rfl⟩) hP hD hS [0, 1, 2, 3, 4, 5, 6, 7, 8, 9] [] [0, 1, 2, 3, 4, 5, 6, 7, 8, 9] rfl rfl rfl rfl (by decide) rfl rfl rfl rfl rfl hl.1 rfl (Nat.le_of_ble_eq_true rfl) dX7_forgottenThen_2 ⟨Nat.le_of_ble_eq_true rfl, Nat.le_of_ble_eq_true rfl⟩ (fun H locs hP hD hS => ?_)
  refine lv_if_ne (tgt := 10) hx hb dX7_forgottenThen_5 (by decide) (fun hc => ?_) (fun hc => ?_)
  · have hrun := it_f hc hrun
    refine lv_iload_n hx hb dX7_forgottenThen_10 rfl (lv_at hl 2 rfl) ?_
    refine lv_if_ne (tgt := 20) hx hb dX7_forgottenThen_11 (by decide) (fun hc => ?_) (fun hc => ?_)
    · have hrun := it_f hc hrun
      refine lv_aload_n hx hb dX7_forgottenThen_20 rfl (lv_at hl 0 rfl) ?_
      refine va_get (D := D) (ci := 6) (v := .ref (ta 0)) (C := RX7) (T := TX7) (N := 16) hx hb hts iX7_forgottenThen_X7 hown hK hP 0 rfl rfl 0 (by decide) (hts _ mX7_forgottenThen_1) (fun _ h9 => h9) rfl dX7_forgottenThen_21 ?_
      refine lv_iconst (v := 1) hx hb dX7_forgottenThen_24 (by decide) ?_
      refine lv_dup2_11 hx hb dX7_forgottenThen_25 rfl rfl ?_
      obtain ⟨hin, hrun⟩ := gd_some hrun
      refine va_iald hx hb hK hP 1 0 rfl rfl hin dX7_forgottenThen_26 ?_
      refine lv_iconst (v := 1) hx hb dX7_forgottenThen_27 (by decide) ?_
      refine lv_iload_n hx hb dX7_forgottenThen_28 rfl (lv_at hl 1 rfl) ?_
      refine lv_ishl hx hb dX7_forgottenThen_29 ?_
      refine lv_iconst (v := (-1)) hx hb dX7_forgottenThen_30 (by decide) ?_
      refine lv_ixor hx hb dX7_forgottenThen_31 ?_
      refine lv_iand hx hb dX7_forgottenThen_32 ?_
      obtain ⟨hin, hrun⟩ := gd_some hrun
      refine va_iast hx hb hK hP hD hS 1 0 rfl rfl hin dX7_forgottenThen_33 (fun H locs hP hD hS => ?_)
      have hP : va_P D vwCl (wX7 kI kJ to ta (upd z ((1 : Int32)).toNatClampNeg ((z ((1 : Int32)).toNatClampNeg) &&& (((1 : Int32) <<< (x1 &&& 31)) ^^^ ((-1))))) nst his len txt thr god prm npr cov siz pts rea pla bef has) H := hP
      have hD : va_D A (wX7 kI kJ to ta (upd z ((1 : Int32)).toNatClampNeg ((z ((1 : Int32)).toNatClampNeg) &&& (((1 : Int32) <<< (x1 &&& 31)) ^^^ ((-1))))) nst his len txt thr god prm npr cov siz pts rea pla bef has) := hD
      obtain ⟨u_2, eu_2⟩ : ∃ y, y = upd z ((1 : Int32)).toNatClampNeg ((z ((1 : Int32)).toNatClampNeg) &&& (((1 : Int32) <<< (x1 &&& 31)) ^^^ ((-1)))) := ⟨_, rfl⟩
      have hrun := lt_some eu_2 hrun
      rw [← eu_2] at hP hD
      refine lv_aload_n hx hb dX7_forgottenThen_34 rfl (lv_at hl 0 rfl) ?_
      obtain ⟨q_3, hq_3, hrun⟩ := bd_some hrun
      refine cV_callV (As := []) (rest := []) (wr := []) (wN := (wX7 kI kJ to ta u_2 nst his len txt thr q_3.1 q_3.2.1 q_3.2.2.1 q_3.2.2.2.1 q_3.2.2.2.2 pts rea pla bef has)) (ci := 6) (q0 := 0) hE (c_X7_layAll l D kI kJ kS to ta  u_2 nst his len txt thr god prm npr cov siz pts rea pla bef has hq_3) (cwV 0 hts gX7_forgottenThen_X7_layAll rfl rfl rfl (by decide +kernel) ⟨Nat.le_of_ble_eq_true rfl, Nat.le_of_ble_eq_true rfl⟩) hP hD hS [0, 1, 2, 3, 4, 5, 6, 7, 8, 9] [] [0, 1, 2, 3, 4, 5, 6, 7, 8, 9] rfl rfl rfl rfl (by decide) rfl rfl rfl rfl rfl hl.1 rfl (Nat.le_of_ble_eq_true rfl) dX7_forgottenThen_35 ⟨Nat.le_of_ble_eq_true rfl, Nat.le_of_ble_eq_true rfl⟩ (fun H locs hP hD hS => ?_)
      refine lv_aload_n hx hb dX7_forgottenThen_38 rfl (lv_at hl 0 rfl) ?_
      refine lv_iconst (v := 0) hx hb dX7_forgottenThen_39 (by decide) ?_
      obtain ⟨q_4, hq_4, hrun⟩ := bd_some hrun
      refine cI_callV (As := [.int 0]) (rest := []) (wr := []) (wN := (wX7 kI kJ to ta u_2 nst his len txt thr q_3.1 q_3.2.1 q_3.2.2.1 q_3.2.2.2.1 q_3.2.2.2.2 pts rea pla bef has)) (ci := 6) (q0 := 0) hE (c_X7_partsOf l D kI kJ kS to ta 0 u_2 nst his len txt thr q_3.1 q_3.2.1 q_3.2.2.1 q_3.2.2.2.1 q_3.2.2.2.2 pts rea pla bef has hq_4) (cwV 1 hts gX7_forgottenThen_X7_partsOf rfl rfl rfl (by decide +kernel) ⟨Nat.le_of_ble_eq_true rfl, Nat.le_of_ble_eq_true rfl⟩) hP hD hS [0, 1, 2, 3, 4, 5, 6, 7, 8, 9] [] [0, 1, 2, 3, 4, 5, 6, 7, 8, 9] rfl rfl rfl rfl (by decide) rfl rfl rfl rfl rfl hl.1 rfl (Nat.le_of_ble_eq_true rfl) dX7_forgottenThen_40 ⟨Nat.le_of_ble_eq_true rfl, Nat.le_of_ble_eq_true rfl⟩ (fun H locs hP hD hS => ?_)
      refine lv_istore_n (lv' := [(3, .int q_4), (0, .ref to), (1, .int x1), (2, .int x2)]) hx hb dX7_forgottenThen_43 rfl hl (by decide) rfl (fun ls hl => ?_)
      refine lv_aload_n hx hb dX7_forgottenThen_44 rfl (lv_at hl 1 rfl) ?_
      refine va_get (D := D) (ci := 6) (v := .ref (ta 0)) (C := RX7) (T := TX7) (N := 16) hx hb hts iX7_forgottenThen_X7 hown hK hP 0 rfl rfl 0 (by decide) (hts _ mX7_forgottenThen_1) (fun _ h9 => h9) rfl dX7_forgottenThen_45 ?_
      refine lv_iconst (v := 1) hx hb dX7_forgottenThen_48 (by decide) ?_
      refine lv_dup2_11 hx hb dX7_forgottenThen_49 rfl rfl ?_
      obtain ⟨hin, hrun⟩ := gd_some hrun
      refine va_iald hx hb hK hP 1 0 rfl rfl hin dX7_forgottenThen_50 ?_
      refine lv_iconst (v := 1) hx hb dX7_forgottenThen_51 (by decide) ?_
      refine lv_iload_n hx hb dX7_forgottenThen_52 rfl (lv_at hl 2 rfl) ?_
      refine lv_ishl hx hb dX7_forgottenThen_53 ?_
      refine lv_ior hx hb dX7_forgottenThen_54 ?_
      obtain ⟨hin, hrun⟩ := gd_some hrun
      refine va_iast hx hb hK hP hD hS 1 0 rfl rfl hin dX7_forgottenThen_55 (fun H locs hP hD hS => ?_)
      have hP : va_P D vwCl (wX7 kI kJ to ta (upd u_2 ((1 : Int32)).toNatClampNeg ((u_2 ((1 : Int32)).toNatClampNeg) ||| ((1 : Int32) <<< (x1 &&& 31)))) nst his len txt thr q_3.1 q_3.2.1 q_3.2.2.1 q_3.2.2.2.1 q_3.2.2.2.2 pts rea pla bef has) H := hP
      have hD : va_D A (wX7 kI kJ to ta (upd u_2 ((1 : Int32)).toNatClampNeg ((u_2 ((1 : Int32)).toNatClampNeg) ||| ((1 : Int32) <<< (x1 &&& 31)))) nst his len txt thr q_3.1 q_3.2.1 q_3.2.2.1 q_3.2.2.2.1 q_3.2.2.2.2 pts rea pla bef has) := hD
      obtain ⟨u_5, eu_5⟩ : ∃ y, y = upd u_2 ((1 : Int32)).toNatClampNeg ((u_2 ((1 : Int32)).toNatClampNeg) ||| ((1 : Int32) <<< (x1 &&& 31))) := ⟨_, rfl⟩
      have hrun := lt_some eu_5 hrun
      rw [← eu_5] at hP hD
      refine lv_iload_n hx hb dX7_forgottenThen_56 rfl (lv_at hl 0 rfl) ?_
      obtain rfl := Option.some.inj hrun
      exact hret _ _ _ _ rfl dX7_forgottenThen_57 hP hD hS
    · have hrun := it_t hc hrun
      refine lv_aload_n hx hb dX7_forgottenThen_14 rfl (lv_at hl 0 rfl) ?_
      refine lv_iload_n hx hb dX7_forgottenThen_15 rfl (lv_at hl 1 rfl) ?_
      obtain ⟨q_6, hq_6, hrun⟩ := bd_some hrun
      refine cI_callV (As := [.int x1]) (rest := []) (wr := []) (wN := (wX7 kI kJ to ta q_6.2 nst his len txt thr god prm npr cov siz pts rea pla bef has)) (ci := 6) (q0 := 0) hE (c_X7_undecidedWithout l D kI kJ kS to ta x1 z nst his len txt thr god prm npr cov siz pts rea pla bef has hq_6) (cwV 1 hts gX7_forgottenThen_X7_undecidedWithout rfl rfl rfl (by decide +kernel) ⟨Nat.le_of_ble_eq_true rfl, Nat.le_of_ble_eq_true rfl⟩) hP hD hS [0, 1, 2, 3, 4, 5, 6, 7, 8, 9] [] [0, 1, 2, 3, 4, 5, 6, 7, 8, 9] rfl rfl rfl rfl (by decide) rfl rfl rfl rfl rfl hl.1 rfl (Nat.le_of_ble_eq_true rfl) dX7_forgottenThen_16 ⟨Nat.le_of_ble_eq_true rfl, Nat.le_of_ble_eq_true rfl⟩ (fun H locs hP hD hS => ?_)
      obtain rfl := Option.some.inj hrun
      exact hret _ _ _ _ rfl dX7_forgottenThen_19 hP hD hS
  · have hrun := it_t hc hrun
    refine lv_iconst (v := (-1)) hx hb dX7_forgottenThen_8 (by decide) ?_
    obtain rfl := Option.some.inj hrun
    exact hret _ _ _ _ rfl dX7_forgottenThen_9 hP hD hS
/-! ===== X7_ifForgotten ===== -/
theorem mX7_ifForgotten_1 : Cond.fieldLink RX7 38 "GateMazeModel" "thrown" "I" ∈ wsX7_ifForgotten := List.mem_of_getElem? (i := 1) rfl
theorem iX7_ifForgotten_X7 : ∀ w ∈ u_ws RX7 TX7 16, w ∈ wsX7_ifForgotten := fun w h => List.mem_cons_of_mem _ (List.mem_append_right _ h)
set_option maxHeartbeats 4000000 in
set_option maxRecDepth 100000 in
theorem c_X7_ifForgotten (l : Launch) (D : va_G) (kI kJ kS : ClassId) (to : Nat) (ta : Nat → Nat) (x1 : Int32) (x2 : Int32) (z : (Nat → Int32)) (nst : Int32) (his : (Nat → Int32)) (len : Int32) (txt : (Nat → Int32)) (thr : Int32) (god : (Nat → Int64)) (prm : (Nat → Int32)) (npr : Int32) (cov : (Nat → Int32)) (siz : (Nat → Int32)) (pts : (Nat → Int32)) (rea : Int32) (pla : Int32) (bef : (Nat → Int32)) (has : Int64) {r : Int32 × (Nat → Int32) × Int32 × (Nat → Int64) × (Nat → Int32) × Int32 × (Nat → Int32) × (Nat → Int32)} (hrun : fX7_ifForgotten z god prm npr cov siz x1 x2 = some r) : cI l D (tyL kI kJ kS) false yX7_ifForgotten wsX7_ifForgotten (rmk 7 0 0 163) [.ref to, .int x1, .int x2] (wX7 kI kJ to ta z nst his len txt thr god prm npr cov siz pts rea pla bef has) (wX7 kI kJ to ta r.2.1 nst his len txt r.2.2.1 r.2.2.2.1 r.2.2.2.2.1 r.2.2.2.2.2.1 r.2.2.2.2.2.2.1 r.2.2.2.2.2.2.2 pts rea pla bef has) r.1 := by
  refine cI_of (cc := cX7_ifForgotten) (maxL := 3) (by decide) rfl (Nat.le_of_ble_eq_true rfl) ?_
  intro p e s m av below meth c A Q ls hE hP hD hS hl hret
  have hE : ent_ p s m av meth c RX7 cX7_ifForgotten 3 (some .int) wsX7_ifForgotten (tyL kI kJ kS) D A false := hE
  obtain ⟨hx, hb, hml, hown, hts, hr, hlocks, hK, hA, hst⟩ := id hE
  have hl : lv_has ls 3 [(0, .ref to), (1, .int x1), (2, .int x2)] := hl
  have c_J27 : ∀ (x1 : Int32) (x2 : Int32) (s0 : Int32) (z : (Nat → Int32)) (god : (Nat → Int64)) (prm : (Nat → Int32)) (npr : Int32) (cov : (Nat → Int32)) (siz : (Nat → Int32)) (thr : Int32), fX7_ifForgotten_J27 x1 x2 s0 z god prm npr cov siz = some r → wAt p l e (rmk 7 0 0 163) s m av below meth c D A 3 0 0 Q 27 [.int s0, .ref to] [(0, .ref to), (1, .int x1), (2, .int x2)] (wX7 kI kJ to ta z nst his len txt thr god prm npr cov siz pts rea pla bef has) := by
    intro x1 x2 s0 z god prm npr cov siz thr hrun H locs ls hP hD hS hl
    unfold fX7_ifForgotten_J27 at hrun
    refine va_put (D := D) (ci := 6) (v := .int s0) (ty := .int) (C := RX7) (T := TX7) (N := 16) hx hb hts iX7_ifForgotten_X7 tyX7 tyX7_ok nmX7 hown hK hP hD hS 0 rfl rfl 5 (by decide) (hts _ mX7_ifForgotten_1) (fun _ h9 => h9) rfl (by decide +kernel) rfl rfl (Nat.le_of_ble_eq_true rfl) dX7_ifForgotten_27 (fun H locs hP hD hS => ?_)
    have hP : va_P D vwCl (wX7 kI kJ to ta z nst his len txt s0 god prm npr cov siz pts rea pla bef has) H := hP
    have hD : va_D A (wX7 kI kJ to ta z nst his len txt s0 god prm npr cov siz pts rea pla bef has) := hD
    refine lv_aload_n hx hb dX7_ifForgotten_30 rfl (lv_at hl 0 rfl) ?_
    refine va_get (D := D) (ci := 6) (v := .int s0) (C := RX7) (T := TX7) (N := 16) hx hb hts iX7_ifForgotten_X7 hown hK hP 0 rfl rfl 5 (by decide) (hts _ mX7_ifForgotten_1) (fun _ h9 => h9) rfl dX7_ifForgotten_31 ?_
    refine lv_if_le (tgt := 41) hx hb dX7_ifForgotten_34 (by decide) (fun hc => ?_) (fun hc => ?_)
    · have hrun := it_t hc hrun
      refine lv_aload_n hx hb dX7_ifForgotten_41 rfl (lv_at hl 0 rfl) ?_
      refine lv_iload_n hx hb dX7_ifForgotten_42 rfl (lv_at hl 1 rfl) ?_
      refine lv_iload_n hx hb dX7_ifForgotten_43 rfl (lv_at hl 2 rfl) ?_
      obtain ⟨q_1, hq_1, hrun⟩ := bd_some hrun
      refine cI_callV (As := [.int x1, .int x2]) (rest := []) (wr := []) (wN := (wX7 kI kJ to ta q_1.2.1 nst his len txt s0 q_1.2.2.1 q_1.2.2.2.1 q_1.2.2.2.2.1 q_1.2.2.2.2.2.1 q_1.2.2.2.2.2.2 pts rea pla bef has)) (ci := 6) (q0 := 0) hE (c_X7_forgottenThen l D kI kJ kS to ta x1 x2 z nst his len txt s0 god prm npr cov siz pts rea pla bef has hq_1) (cwV 2 hts gX7_ifForgotten_X7_forgottenThen rfl rfl rfl (by decide +kernel) ⟨Nat.le_of_ble_eq_true rfl, Nat.le_of_ble_eq_true rfl⟩) hP hD hS [0, 1, 2, 3, 4, 5, 6, 7, 8, 9] [] [0, 1, 2, 3, 4, 5, 6, 7, 8, 9] rfl rfl rfl rfl (by decide) rfl rfl rfl rfl rfl hl.1 rfl (Nat.le_of_ble_eq_true rfl) dX7_ifForgotten_44 ⟨Nat.le_of_ble_eq_true rfl, Nat.le_of_ble_eq_true rfl⟩ (fun H locs hP hD hS => ?_)
      obtain rfl := Option.some.inj hrun
      exact hret _ _ _ _ rfl dX7_ifForgotten_47 hP hD hS
    · have hrun := it_f hc hrun
      refine lv_iconst (v := 0) hx hb dX7_ifForgotten_37 (by decide) ?_
      refine lv_goto (tgt := 47) hx hb dX7_ifForgotten_38 (by decide) ?_
      obtain rfl := Option.some.inj hrun
      exact hret _ _ _ _ rfl dX7_ifForgotten_47 hP hD hS
  unfold fX7_ifForgotten at hrun
  refine lv_aload_n hx hb dX7_ifForgotten_0 rfl (lv_at hl 0 rfl) ?_
  refine lv_aload_n hx hb dX7_ifForgotten_1 rfl (lv_at hl 0 rfl) ?_
  refine lv_iload_n hx hb dX7_ifForgotten_2 rfl (lv_at hl 1 rfl) ?_
  obtain ⟨q_2, hq_2, hrun⟩ := bd_some hrun
  refine cI_callV (As := [.int x1]) (rest := [.ref to]) (wr := []) (wN := (wX7 kI kJ to ta z nst his len txt thr god prm npr cov siz pts rea pla bef has)) (ci := 6) (q0 := 0) hE (c_X7_isInput l D kI kJ kS to ta x1 z nst his len txt thr god prm npr cov siz pts rea pla bef has hq_2) (cwV 1 hts gX7_ifForgotten_X7_isInput rfl rfl rfl (by decide +kernel) ⟨Nat.le_of_ble_eq_true rfl, Nat.le_of_ble_eq_true rfl⟩) hP hD hS [0, 1, 2, 3, 4, 5, 6, 7, 8, 9] [] [0, 1, 2, 3, 4, 5, 6, 7, 8, 9] rfl rfl rfl rfl (by decide) rfl rfl rfl rfl rfl hl.1 rfl (Nat.le_of_ble_eq_true rfl) dX7_ifForgotten_3 ⟨Nat.le_of_ble_eq_true rfl, Nat.le_of_ble_eq_true rfl⟩ (fun H locs hP hD hS => ?_)
  refine lv_if_ne (tgt := 13) hx hb dX7_ifForgotten_6 (by decide) (fun hc => ?_) (fun hc => ?_)
  · have hrun := it_f hc hrun
    refine lv_iload_n hx hb dX7_ifForgotten_13 rfl (lv_at hl 2 rfl) ?_
    refine lv_iconst (v := 0) hx hb dX7_ifForgotten_14 (by decide) ?_
    refine lv_iconst (v := 1) hx hb dX7_ifForgotten_15 (by decide) ?_
    obtain ⟨q_3, hq_3, hrun⟩ := bd_some hrun
    refine cI_callS (As := [.int x2, .int 0, .int 1]) (rest := [.ref to]) (wr := (wX7 kI kJ to ta z nst his len txt thr god prm npr cov siz pts rea pla bef has)) (wN := (wX7 kI kJ to ta z nst his len txt thr god prm npr cov siz pts rea pla bef has)) hE (c_X7_within l D kI kJ kS x2 0 1  hq_3) (va_cwS 3 hts gX7_ifForgotten_X7_within rfl rfl rfl (by decide +kernel) ⟨Nat.le_of_ble_eq_true rfl, Nat.le_of_ble_eq_true rfl⟩) hP hD hS [] [0, 1, 2, 3, 4, 5, 6, 7, 8, 9] [0, 1, 2, 3, 4, 5, 6, 7, 8, 9] rfl rfl rfl rfl (by decide) rfl rfl rfl hl.1 rfl (Nat.le_of_ble_eq_true rfl) dX7_ifForgotten_16 ⟨Nat.le_of_ble_eq_true rfl, Nat.le_of_ble_eq_true rfl⟩ (fun H locs hP hD hS => ?_)
    refine lv_if_eq (tgt := 26) hx hb dX7_ifForgotten_19 (by decide) (fun hc => ?_) (fun hc => ?_)
    · have hrun := it_t hc hrun
      refine lv_iconst (v := 2) hx hb dX7_ifForgotten_26 (by decide) ?_
      exact c_J27 x1 x2 2 z god prm npr cov siz thr hrun _ _ _ hP hD hS (lv_sub hl [0, 1, 2] rfl)
    · have hrun := it_f hc hrun
      refine lv_iconst (v := 0) hx hb dX7_ifForgotten_22 (by decide) ?_
      refine lv_goto (tgt := 27) hx hb dX7_ifForgotten_23 (by decide) ?_
      exact c_J27 x1 x2 0 z god prm npr cov siz thr hrun _ _ _ hP hD hS (lv_sub hl [0, 1, 2] rfl)
  · have hrun := it_t hc hrun
    refine lv_iconst (v := 1) hx hb dX7_ifForgotten_9 (by decide) ?_
    refine lv_goto (tgt := 27) hx hb dX7_ifForgotten_10 (by decide) ?_
    exact c_J27 x1 x2 1 z god prm npr cov siz thr hrun _ _ _ hP hD hS (lv_sub hl [0, 1, 2] rfl)
/-! ===== X7_needsNow ===== -/
theorem mX7_needsNow_1 : Cond.fieldLink RX7 7 "GateMazeModel" "z" "[I" ∈ wsX7_needsNow := List.mem_of_getElem? (i := 1) rfl
theorem iX7_needsNow_X7 : ∀ w ∈ u_ws RX7 TX7 16, w ∈ wsX7_needsNow := fun w h => List.mem_cons_of_mem _ (List.mem_append_right _ h)
set_option maxHeartbeats 4000000 in
set_option maxRecDepth 100000 in
theorem c_X7_needsNow (l : Launch) (D : va_G) (kI kJ kS : ClassId) (to : Nat) (ta : Nat → Nat) (x1 : Int32) (z : (Nat → Int32)) (nst : Int32) (his : (Nat → Int32)) (len : Int32) (txt : (Nat → Int32)) (thr : Int32) (god : (Nat → Int64)) (prm : (Nat → Int32)) (npr : Int32) (cov : (Nat → Int32)) (siz : (Nat → Int32)) (pts : (Nat → Int32)) (rea : Int32) (pla : Int32) (bef : (Nat → Int32)) (has : Int64) {r : Int32} (hrun : fX7_needsNow z x1 = some r) : cI l D (tyL kI kJ kS) false yX7_needsNow wsX7_needsNow (rmk 1 0 0 22) [.ref to, .int x1] (wX7 kI kJ to ta z nst his len txt thr god prm npr cov siz pts rea pla bef has) (wX7 kI kJ to ta z nst his len txt thr god prm npr cov siz pts rea pla bef has) r := by
  refine cI_of (cc := cX7_needsNow) (maxL := 6) (by decide) rfl (Nat.le_of_ble_eq_true rfl) ?_
  intro p e s m av below meth c A Q ls hE hP hD hS hl hret
  have hE : ent_ p s m av meth c RX7 cX7_needsNow 6 (some .int) wsX7_needsNow (tyL kI kJ kS) D A false := hE
  obtain ⟨hx, hb, hml, hown, hts, hr, hlocks, hK, hA, hst⟩ := id hE
  have hl : lv_has ls 6 [(0, .ref to), (1, .int x1)] := hl
  have c_J63 : ∀ (x1 : Int32) (x3 : Int32) (x4 : Int32) (s0 : Int32) (s1 : Int32) (k17 : Int32 → Int32 → Option (Int32)) (hk17 : (∀ (x2 : Int32) (x4 : Int32), k17 x2 x4 = some r → wAt p l e (rmk 1 0 0 22) s m av below meth c D A 6 0 0 Q 17 [] [(0, .ref to), (1, .int x1), (2, .int x2), (3, .int x3), (4, .int x4)] (wX7 kI kJ to ta z nst his len txt thr god prm npr cov siz pts rea pla bef has))), fX7_needsNow_J63 x1 x3 x4 s0 s1 z k17 = some r → wAt p l e (rmk 1 0 0 22) s m av below meth c D A 6 0 0 Q 63 [.int s0, .int s1] [(0, .ref to), (1, .int x1), (3, .int x3), (4, .int x4)] (wX7 kI kJ to ta z nst his len txt thr god prm npr cov siz pts rea pla bef has) := by
    intro x1 x3 x4 s0 s1 k17 hk17 hrun H locs ls hP hD hS hl
    unfold fX7_needsNow_J63 at hrun
    refine lv_ior hx hb dX7_needsNow_63 ?_
    refine lv_istore_n (lv' := [(2, .int (s1 ||| s0)), (0, .ref to), (1, .int x1), (3, .int x3), (4, .int x4)]) hx hb dX7_needsNow_64 rfl hl (by decide) rfl (fun ls hl => ?_)
    refine lv_iinc (v := x4 + 1) (lv' := [(4, .int (x4 + 1)), (2, .int (s1 ||| s0)), (0, .ref to), (1, .int x1), (3, .int x3)]) hx hb dX7_needsNow_65 hl (k := 4) rfl rfl (by decide) rfl (fun ls hl => ?_)
    refine lv_goto (tgt := 17) hx hb dX7_needsNow_68 (by decide) ?_
    exact hk17 (s1 ||| s0) (x4 + 1)  hrun _ _ _ hP hD hS (lv_sub hl [2, 3, 1, 4, 0] rfl)
  have c_J62 : ∀ (x1 : Int32) (x3 : Int32) (x4 : Int32) (s0 : Int32) (k17 : Int32 → Int32 → Option (Int32)) (hk17 : (∀ (x2 : Int32) (x4 : Int32), k17 x2 x4 = some r → wAt p l e (rmk 1 0 0 22) s m av below meth c D A 6 0 0 Q 17 [] [(0, .ref to), (1, .int x1), (2, .int x2), (3, .int x3), (4, .int x4)] (wX7 kI kJ to ta z nst his len txt thr god prm npr cov siz pts rea pla bef has))), fX7_needsNow_J62 x1 x3 x4 s0 z k17 = some r → wAt p l e (rmk 1 0 0 22) s m av below meth c D A 6 0 0 Q 62 [.int s0] [(0, .ref to), (1, .int x1), (3, .int x3), (4, .int x4)] (wX7 kI kJ to ta z nst his len txt thr god prm npr cov siz pts rea pla bef has) := by
    intro x1 x3 x4 s0 k17 hk17 hrun H locs ls hP hD hS hl
    unfold fX7_needsNow_J62 at hrun
    refine lv_iconst (v := 0) hx hb dX7_needsNow_62 (by decide) ?_
    exact c_J63 x1 x3 x4 0 s0 k17 hk17  hrun _ _ _ hP hD hS (lv_sub hl [0, 1, 2, 3] rfl)
  have c_J71 : ∀ (x1 : Int32) (x2 : Int32) (x3 : Int32) (k4 : Int32 → Int32 → Option (Int32)) (hk4 : (∀ (x2 : Int32) (x3 : Int32), k4 x2 x3 = some r → wAt p l e (rmk 1 0 0 22) s m av below meth c D A 6 0 0 Q 4 [] [(0, .ref to), (1, .int x1), (2, .int x2), (3, .int x3)] (wX7 kI kJ to ta z nst his len txt thr god prm npr cov siz pts rea pla bef has))), fX7_needsNow_J71 x1 x2 x3 z k4 = some r → wAt p l e (rmk 1 0 0 22) s m av below meth c D A 6 0 0 Q 71 [] [(0, .ref to), (1, .int x1), (2, .int x2), (3, .int x3)] (wX7 kI kJ to ta z nst his len txt thr god prm npr cov siz pts rea pla bef has) := by
    intro x1 x2 x3 k4 hk4 hrun H locs ls hP hD hS hl
    unfold fX7_needsNow_J71 at hrun
    refine lv_iinc (v := x3 + 1) (lv' := [(3, .int (x3 + 1)), (0, .ref to), (1, .int x1), (2, .int x2)]) hx hb dX7_needsNow_71 hl (k := 3) rfl rfl (by decide) rfl (fun ls hl => ?_)
    refine lv_goto (tgt := 4) hx hb dX7_needsNow_74 (by decide) ?_
    exact hk4 x2 (x3 + 1)  hrun _ _ _ hP hD hS (lv_sub hl [1, 2, 3, 0] rfl)
  have c_L17 : ∀ (x1 : Int32) (x3 : Int32) (k4 : Int32 → Int32 → Option (Int32)) (hk4 : (∀ (x2 : Int32) (x3 : Int32), k4 x2 x3 = some r → wAt p l e (rmk 1 0 0 22) s m av below meth c D A 6 0 0 Q 4 [] [(0, .ref to), (1, .int x1), (2, .int x2), (3, .int x3)] (wX7 kI kJ to ta z nst his len txt thr god prm npr cov siz pts rea pla bef has))) (n : Nat) (x2 : Int32) (x4 : Int32), fX7_needsNow_L17 x1 x3 z k4 n x2 x4 = some r → wAt p l e (rmk 1 0 0 22) s m av below meth c D A 6 0 0 Q 17 [] [(0, .ref to), (1, .int x1), (2, .int x2), (3, .int x3), (4, .int x4)] (wX7 kI kJ to ta z nst his len txt thr god prm npr cov siz pts rea pla bef has) := by
    intro x1 x3 k4 hk4 n
    induction n with
    | zero =>
      intro x2 x4 hrun
      rw [fX7_needsNow_L17] at hrun
      cases hrun
    | succ n ih =>
      intro x2 x4 hrun H locs ls hP hD hS hl
      rw [fX7_needsNow_L17] at hrun
      refine lv_iload hx hb dX7_needsNow_17 (lv_at hl 4 rfl) ?_
      refine lv_aload_n hx hb dX7_needsNow_19 rfl (lv_at hl 0 rfl) ?_
      obtain ⟨q_1, hq_1, hrun⟩ := bd_some hrun
      refine cI_callV (As := []) (rest := [.int x4]) (wr := []) (wN := (wX7 kI kJ to ta z nst his len txt thr god prm npr cov siz pts rea pla bef has)) (ci := 6) (q0 := 0) hE (c_X7_rows l D kI kJ kS to ta  z nst his len txt thr god prm npr cov siz pts rea pla bef has hq_1) (cwV 0 hts gX7_needsNow_X7_rows rfl rfl rfl (by decide +kernel) ⟨Nat.le_of_ble_eq_true rfl, Nat.le_of_ble_eq_true rfl⟩) hP hD hS [0, 1, 2, 3, 4, 5, 6, 7, 8, 9] [] [0, 1, 2, 3, 4, 5, 6, 7, 8, 9] rfl rfl rfl rfl (by decide) rfl rfl rfl rfl rfl hl.1 rfl (Nat.le_of_ble_eq_true rfl) dX7_needsNow_20 ⟨Nat.le_of_ble_eq_true rfl, Nat.le_of_ble_eq_true rfl⟩ (fun H locs hP hD hS => ?_)
      refine lv_icmp_ge (tgt := 71) hx hb dX7_needsNow_23 (by decide) (fun hc => ?_) (fun hc => ?_)
      · have hrun := it_t hc hrun
        exact c_J71 x1 x2 x3 k4 hk4  hrun _ _ _ hP hD hS (lv_sub hl [0, 1, 2, 3] rfl)
      · have hrun := it_f hc hrun
        refine lv_iload hx hb dX7_needsNow_26 (lv_at hl 4 rfl) ?_
        refine lv_iconst (v := 1) hx hb dX7_needsNow_28 (by decide) ?_
        refine lv_iload_n hx hb dX7_needsNow_29 rfl (lv_at hl 3 rfl) ?_
        refine lv_ishl hx hb dX7_needsNow_30 ?_
        refine lv_ixor hx hb dX7_needsNow_31 ?_
        refine lv_istore (lv' := [(5, .int (x4 ^^^ ((1 : Int32) <<< (x3 &&& 31)))), (0, .ref to), (1, .int x1), (2, .int x2), (3, .int x3), (4, .int x4)]) hx hb dX7_needsNow_32 hl (by decide) rfl (fun ls hl => ?_)
        refine lv_iload_n hx hb dX7_needsNow_34 rfl (lv_at hl 3 rfl) ?_
        refine lv_aload_n hx hb dX7_needsNow_35 rfl (lv_at hl 1 rfl) ?_
        refine lv_iload_n hx hb dX7_needsNow_36 rfl (lv_at hl 2 rfl) ?_
        refine lv_iload hx hb dX7_needsNow_37 (lv_at hl 5 rfl) ?_
        obtain ⟨q_2, hq_2, hrun⟩ := bd_some hrun
        refine cI_callV (As := [.int x1, .int x4]) (rest := [.int x2]) (wr := []) (wN := (wX7 kI kJ to ta z nst his len txt thr god prm npr cov siz pts rea pla bef has)) (ci := 6) (q0 := 0) hE (c_X7_truth l D kI kJ kS to ta x1 x4 z nst his len txt thr god prm npr cov siz pts rea pla bef has hq_2) (cwV 2 hts gX7_needsNow_X7_truth rfl rfl rfl (by decide +kernel) ⟨Nat.le_of_ble_eq_true rfl, Nat.le_of_ble_eq_true rfl⟩) hP hD hS [0, 1, 2, 3, 4, 5, 6, 7, 8, 9] [] [0, 1, 2, 3, 4, 5, 6, 7, 8, 9] rfl rfl rfl rfl (by decide) rfl rfl rfl rfl rfl hl.1 rfl (Nat.le_of_ble_eq_true rfl) dX7_needsNow_39 ⟨Nat.le_of_ble_eq_true rfl, Nat.le_of_ble_eq_true rfl⟩ (fun H locs hP hD hS => ?_)
        refine lv_if_ne (tgt := 62) hx hb dX7_needsNow_42 (by decide) (fun hc => ?_) (fun hc => ?_)
        · have hrun := it_f hc hrun
          exact c_J62 x1 x3 x4 x2 (fX7_needsNow_L17 x1 x3 z k4 n) ih  hrun _ _ _ hP hD hS (lv_sub hl [1, 2, 4, 5] rfl)
        · have hrun := it_t hc hrun
          refine lv_aload_n hx hb dX7_needsNow_45 rfl (lv_at hl 1 rfl) ?_
          refine lv_iload_n hx hb dX7_needsNow_46 rfl (lv_at hl 2 rfl) ?_
          refine lv_iload hx hb dX7_needsNow_47 (lv_at hl 0 rfl) ?_
          obtain ⟨q_3, hq_3, hrun⟩ := bd_some hrun
          refine cI_callV (As := [.int x1, .int (x4 ^^^ ((1 : Int32) <<< (x3 &&& 31)))]) (rest := [.int x2]) (wr := []) (wN := (wX7 kI kJ to ta z nst his len txt thr god prm npr cov siz pts rea pla bef has)) (ci := 6) (q0 := 0) hE (c_X7_truth l D kI kJ kS to ta x1 (x4 ^^^ ((1 : Int32) <<< (x3 &&& 31))) z nst his len txt thr god prm npr cov siz pts rea pla bef has hq_3) (cwV 2 hts gX7_needsNow_X7_truth rfl rfl rfl (by decide +kernel) ⟨Nat.le_of_ble_eq_true rfl, Nat.le_of_ble_eq_true rfl⟩) hP hD hS [0, 1, 2, 3, 4, 5, 6, 7, 8, 9] [] [0, 1, 2, 3, 4, 5, 6, 7, 8, 9] rfl rfl rfl rfl (by decide) rfl rfl rfl rfl rfl hl.1 rfl (Nat.le_of_ble_eq_true rfl) dX7_needsNow_49 ⟨Nat.le_of_ble_eq_true rfl, Nat.le_of_ble_eq_true rfl⟩ (fun H locs hP hD hS => ?_)
          refine lv_iconst (v := 1) hx hb dX7_needsNow_52 (by decide) ?_
          refine lv_icmp_ne (tgt := 62) hx hb dX7_needsNow_53 (by decide) (fun hc => ?_) (fun hc => ?_)
          · have hrun := it_f hc hrun
            exact c_J62 x1 x3 x4 x2 (fX7_needsNow_L17 x1 x3 z k4 n) ih  hrun _ _ _ hP hD hS (lv_sub hl [1, 2, 4, 5] rfl)
          · have hrun := it_t hc hrun
            refine lv_iconst (v := 1) hx hb dX7_needsNow_56 (by decide) ?_
            refine lv_iload_n hx hb dX7_needsNow_57 rfl (lv_at hl 4 rfl) ?_
            refine lv_ishl hx hb dX7_needsNow_58 ?_
            refine lv_goto (tgt := 63) hx hb dX7_needsNow_59 (by decide) ?_
            exact c_J63 x1 x3 x4 ((1 : Int32) <<< (x3 &&& 31)) x2 (fX7_needsNow_L17 x1 x3 z k4 n) ih  hrun _ _ _ hP hD hS (lv_sub hl [1, 2, 4, 5] rfl)
  have c_L4 : ∀ (x1 : Int32) (n : Nat) (x2 : Int32) (x3 : Int32), fX7_needsNow_L4 x1 z n x2 x3 = some r → wAt p l e (rmk 1 0 0 22) s m av below meth c D A 6 0 0 Q 4 [] [(0, .ref to), (1, .int x1), (2, .int x2), (3, .int x3)] (wX7 kI kJ to ta z nst his len txt thr god prm npr cov siz pts rea pla bef has) := by
    intro x1 n
    induction n with
    | zero =>
      intro x2 x3 hrun
      rw [fX7_needsNow_L4] at hrun
      cases hrun
    | succ n ih =>
      intro x2 x3 hrun H locs ls hP hD hS hl
      rw [fX7_needsNow_L4] at hrun
      refine lv_iload_n hx hb dX7_needsNow_4 rfl (lv_at hl 3 rfl) ?_
      refine lv_aload_n hx hb dX7_needsNow_5 rfl (lv_at hl 0 rfl) ?_
      refine va_get (D := D) (ci := 6) (v := .ref (ta 0)) (C := RX7) (T := TX7) (N := 16) hx hb hts iX7_needsNow_X7 hown hK hP 0 rfl rfl 0 (by decide) (hts _ mX7_needsNow_1) (fun _ h9 => h9) rfl dX7_needsNow_6 ?_
      refine lv_iconst (v := 0) hx hb dX7_needsNow_9 (by decide) ?_
      obtain ⟨hin, hrun⟩ := gd_some hrun
      refine va_iald hx hb hK hP 1 0 rfl rfl hin dX7_needsNow_10 ?_
      refine lv_icmp_ge (tgt := 77) hx hb dX7_needsNow_11 (by decide) (fun hc => ?_) (fun hc => ?_)
      · have hrun := it_t hc hrun
        refine lv_iload_n hx hb dX7_needsNow_77 rfl (lv_at hl 2 rfl) ?_
        obtain rfl := Option.some.inj hrun
        exact hret _ _ _ _ rfl dX7_needsNow_78 hP hD hS
      · have hrun := it_f hc hrun
        refine lv_iconst (v := 0) hx hb dX7_needsNow_14 (by decide) ?_
        refine lv_istore (lv' := [(4, .int 0), (0, .ref to), (1, .int x1), (2, .int x2), (3, .int x3)]) hx hb dX7_needsNow_15 hl (by decide) rfl (fun ls hl => ?_)
        exact c_L17 x1 x3 (fX7_needsNow_L4 x1 z n) ih 5000 x2 0  hrun _ _ _ hP hD hS (lv_sub hl [1, 2, 3, 4, 0] rfl)
  unfold fX7_needsNow at hrun
  refine lv_iconst (v := 0) hx hb dX7_needsNow_0 (by decide) ?_
  refine lv_istore_n (lv' := [(2, .int 0), (0, .ref to), (1, .int x1)]) hx hb dX7_needsNow_1 rfl hl (by decide) rfl (fun ls hl => ?_)
  refine lv_iconst (v := 0) hx hb dX7_needsNow_2 (by decide) ?_
  refine lv_istore_n (lv' := [(3, .int 0), (2, .int 0), (0, .ref to), (1, .int x1)]) hx hb dX7_needsNow_3 rfl hl (by decide) rfl (fun ls hl => ?_)
  exact c_L4 x1 5000 0 0  hrun _ _ _ hP hD hS (lv_sub hl [2, 3, 1, 0] rfl)
/-! ===== X7_needs ===== -/
theorem mX7_needs_1 : Cond.fieldLink RX7 38 "GateMazeModel" "thrown" "I" ∈ wsX7_needs := List.mem_of_getElem? (i := 1) rfl
theorem iX7_needs_X7 : ∀ w ∈ u_ws RX7 TX7 16, w ∈ wsX7_needs := fun w h => List.mem_cons_of_mem _ (List.mem_append_right _ h)
set_option maxHeartbeats 4000000 in
set_option maxRecDepth 100000 in
theorem c_X7_needs (l : Launch) (D : va_G) (kI kJ kS : ClassId) (to : Nat) (ta : Nat → Nat) (x1 : Int32) (z : (Nat → Int32)) (nst : Int32) (his : (Nat → Int32)) (len : Int32) (txt : (Nat → Int32)) (thr : Int32) (god : (Nat → Int64)) (prm : (Nat → Int32)) (npr : Int32) (cov : (Nat → Int32)) (siz : (Nat → Int32)) (pts : (Nat → Int32)) (rea : Int32) (pla : Int32) (bef : (Nat → Int32)) (has : Int64) {r : Int32 × Int32} (hrun : fX7_needs z x1 = some r) : cI l D (tyL kI kJ kS) false yX7_needs wsX7_needs (rmk 2 0 0 47) [.ref to, .int x1] (wX7 kI kJ to ta z nst his len txt thr god prm npr cov siz pts rea pla bef has) (wX7 kI kJ to ta z nst his len txt r.2 god prm npr cov siz pts rea pla bef has) r.1 := by
  refine cI_of (cc := cX7_needs) (maxL := 2) (by decide) rfl (Nat.le_of_ble_eq_true rfl) ?_
  intro p e s m av below meth c A Q ls hE hP hD hS hl hret
  have hE : ent_ p s m av meth c RX7 cX7_needs 2 (some .int) wsX7_needs (tyL kI kJ kS) D A false := hE
  obtain ⟨hx, hb, hml, hown, hts, hr, hlocks, hK, hA, hst⟩ := id hE
  have hl : lv_has ls 2 [(0, .ref to), (1, .int x1)] := hl
  have c_J13 : ∀ (x1 : Int32) (s0 : Int32) (thr : Int32), fX7_needs_J13 x1 s0 z = some r → wAt p l e (rmk 2 0 0 47) s m av below meth c D A 2 0 0 Q 13 [.int s0, .ref to] [(0, .ref to), (1, .int x1)] (wX7 kI kJ to ta z nst his len txt thr god prm npr cov siz pts rea pla bef has) := by
    intro x1 s0 thr hrun H locs ls hP hD hS hl
    unfold fX7_needs_J13 at hrun
    refine va_put (D := D) (ci := 6) (v := .int s0) (ty := .int) (C := RX7) (T := TX7) (N := 16) hx hb hts iX7_needs_X7 tyX7 tyX7_ok nmX7 hown hK hP hD hS 0 rfl rfl 5 (by decide) (hts _ mX7_needs_1) (fun _ h9 => h9) rfl (by decide +kernel) rfl rfl (Nat.le_of_ble_eq_true rfl) dX7_needs_13 (fun H locs hP hD hS => ?_)
    have hP : va_P D vwCl (wX7 kI kJ to ta z nst his len txt s0 god prm npr cov siz pts rea pla bef has) H := hP
    have hD : va_D A (wX7 kI kJ to ta z nst his len txt s0 god prm npr cov siz pts rea pla bef has) := hD
    refine lv_aload_n hx hb dX7_needs_16 rfl (lv_at hl 0 rfl) ?_
    refine va_get (D := D) (ci := 6) (v := .int s0) (C := RX7) (T := TX7) (N := 16) hx hb hts iX7_needs_X7 hown hK hP 0 rfl rfl 5 (by decide) (hts _ mX7_needs_1) (fun _ h9 => h9) rfl dX7_needs_17 ?_
    refine lv_if_le (tgt := 27) hx hb dX7_needs_20 (by decide) (fun hc => ?_) (fun hc => ?_)
    · have hrun := it_t hc hrun
      refine lv_aload_n hx hb dX7_needs_27 rfl (lv_at hl 0 rfl) ?_
      refine lv_iload_n hx hb dX7_needs_28 rfl (lv_at hl 1 rfl) ?_
      obtain ⟨q_1, hq_1, hrun⟩ := bd_some hrun
      refine cI_callV (As := [.int x1]) (rest := []) (wr := []) (wN := (wX7 kI kJ to ta z nst his len txt s0 god prm npr cov siz pts rea pla bef has)) (ci := 6) (q0 := 0) hE (c_X7_needsNow l D kI kJ kS to ta x1 z nst his len txt s0 god prm npr cov siz pts rea pla bef has hq_1) (cwV 1 hts gX7_needs_X7_needsNow rfl rfl rfl (by decide +kernel) ⟨Nat.le_of_ble_eq_true rfl, Nat.le_of_ble_eq_true rfl⟩) hP hD hS [0, 1, 2, 3, 4, 5, 6, 7, 8, 9] [] [0, 1, 2, 3, 4, 5, 6, 7, 8, 9] rfl rfl rfl rfl (by decide) rfl rfl rfl rfl rfl hl.1 rfl (Nat.le_of_ble_eq_true rfl) dX7_needs_29 ⟨Nat.le_of_ble_eq_true rfl, Nat.le_of_ble_eq_true rfl⟩ (fun H locs hP hD hS => ?_)
      obtain rfl := Option.some.inj hrun
      exact hret _ _ _ _ rfl dX7_needs_32 hP hD hS
    · have hrun := it_f hc hrun
      refine lv_iconst (v := 0) hx hb dX7_needs_23 (by decide) ?_
      refine lv_goto (tgt := 32) hx hb dX7_needs_24 (by decide) ?_
      obtain rfl := Option.some.inj hrun
      exact hret _ _ _ _ rfl dX7_needs_32 hP hD hS
  unfold fX7_needs at hrun
  refine lv_aload_n hx hb dX7_needs_0 rfl (lv_at hl 0 rfl) ?_
  refine lv_iload_n hx hb dX7_needs_1 rfl (lv_at hl 1 rfl) ?_
  obtain ⟨q_2, hq_2, hrun⟩ := bd_some hrun
  refine cI_callS (As := [.int x1]) (rest := [.ref to]) (wr := (wX7 kI kJ to ta z nst his len txt thr god prm npr cov siz pts rea pla bef has)) (wN := (wX7 kI kJ to ta z nst his len txt thr god prm npr cov siz pts rea pla bef has)) hE (c_X7_isOutput l D kI kJ kS x1  hq_2) (va_cwS 1 hts gX7_needs_X7_isOutput rfl rfl rfl (by decide +kernel) ⟨Nat.le_of_ble_eq_true rfl, Nat.le_of_ble_eq_true rfl⟩) hP hD hS [] [0, 1, 2, 3, 4, 5, 6, 7, 8, 9] [0, 1, 2, 3, 4, 5, 6, 7, 8, 9] rfl rfl rfl rfl (by decide) rfl rfl rfl hl.1 rfl (Nat.le_of_ble_eq_true rfl) dX7_needs_2 ⟨Nat.le_of_ble_eq_true rfl, Nat.le_of_ble_eq_true rfl⟩ (fun H locs hP hD hS => ?_)
  refine lv_if_eq (tgt := 12) hx hb dX7_needs_5 (by decide) (fun hc => ?_) (fun hc => ?_)
  · have hrun := it_t hc hrun
    refine lv_iconst (v := 1) hx hb dX7_needs_12 (by decide) ?_
    exact c_J13 x1 1 thr hrun _ _ _ hP hD hS (lv_sub hl [0, 1] rfl)
  · have hrun := it_f hc hrun
    refine lv_iconst (v := 0) hx hb dX7_needs_8 (by decide) ?_
    refine lv_goto (tgt := 13) hx hb dX7_needs_9 (by decide) ?_
    exact c_J13 x1 0 thr hrun _ _ _ hP hD hS (lv_sub hl [0, 1] rfl)
/-! ===== X7_harmlessNow ===== -/
theorem mX7_harmlessNow_1 : Cond.fieldLink RX7 7 "GateMazeModel" "z" "[I" ∈ wsX7_harmlessNow := List.mem_of_getElem? (i := 1) rfl
theorem iX7_harmlessNow_X7 : ∀ w ∈ u_ws RX7 TX7 16, w ∈ wsX7_harmlessNow := fun w h => List.mem_cons_of_mem _ (List.mem_append_right _ h)
set_option maxHeartbeats 4000000 in
set_option maxRecDepth 100000 in
theorem c_X7_harmlessNow (l : Launch) (D : va_G) (kI kJ kS : ClassId) (to : Nat) (ta : Nat → Nat) (z : (Nat → Int32)) (nst : Int32) (his : (Nat → Int32)) (len : Int32) (txt : (Nat → Int32)) (thr : Int32) (god : (Nat → Int64)) (prm : (Nat → Int32)) (npr : Int32) (cov : (Nat → Int32)) (siz : (Nat → Int32)) (pts : (Nat → Int32)) (rea : Int32) (pla : Int32) (bef : (Nat → Int32)) (has : Int64) {r : Int32 × (Nat → Int32)} (hrun : fX7_harmlessNow z = some r) : cI l D (tyL kI kJ kS) false yX7_harmlessNow wsX7_harmlessNow (rmk 4 0 0 93) [.ref to] (wX7 kI kJ to ta z nst his len txt thr god prm npr cov siz pts rea pla bef has) (wX7 kI kJ to ta r.2 nst his len txt thr god prm npr cov siz pts rea pla bef has) r.1 := by
  refine cI_of (cc := cX7_harmlessNow) (maxL := 4) (by decide) rfl (Nat.le_of_ble_eq_true rfl) ?_
  intro p e s m av below meth c A Q ls hE hP hD hS hl hret
  have hE : ent_ p s m av meth c RX7 cX7_harmlessNow 4 (some .int) wsX7_harmlessNow (tyL kI kJ kS) D A false := hE
  obtain ⟨hx, hb, hml, hown, hts, hr, hlocks, hK, hA, hst⟩ := id hE
  have hl : lv_has ls 4 [(0, .ref to)] := hl
  have c_J58 : ∀ (x1 : Int32) (x3 : Int32) (s0 : Int32) (z : (Nat → Int32)) (k11 : Int32 → Int32 → (Nat → Int32) → Option (Int32 × (Nat → Int32))) (hk11 : (∀ (x2 : Int32) (x3 : Int32) (z : (Nat → Int32)), k11 x2 x3 z = some r → wAt p l e (rmk 4 0 0 93) s m av below meth c D A 4 0 0 Q 11 [] [(0, .ref to), (1, .int x1), (2, .int x2), (3, .int x3)] (wX7 kI kJ to ta z nst his len txt thr god prm npr cov siz pts rea pla bef has))), fX7_harmlessNow_J58 x1 x3 s0 z k11 = some r → wAt p l e (rmk 4 0 0 93) s m av below meth c D A 4 0 0 Q 58 [.int s0] [(0, .ref to), (1, .int x1), (3, .int x3)] (wX7 kI kJ to ta z nst his len txt thr god prm npr cov siz pts rea pla bef has) := by
    intro x1 x3 s0 z k11 hk11 hrun H locs ls hP hD hS hl
    unfold fX7_harmlessNow_J58 at hrun
    refine lv_istore_n (lv' := [(2, .int s0), (0, .ref to), (1, .int x1), (3, .int x3)]) hx hb dX7_harmlessNow_58 rfl hl (by decide) rfl (fun ls hl => ?_)
    refine lv_iinc (v := x3 + 1) (lv' := [(3, .int (x3 + 1)), (2, .int s0), (0, .ref to), (1, .int x1)]) hx hb dX7_harmlessNow_59 hl (k := 3) rfl rfl (by decide) rfl (fun ls hl => ?_)
    refine lv_goto (tgt := 11) hx hb dX7_harmlessNow_62 (by decide) ?_
    exact hk11 s0 (x3 + 1) z  hrun _ _ _ hP hD hS (lv_sub hl [2, 3, 1, 0] rfl)
  have c_J57 : ∀ (x1 : Int32) (x2 : Int32) (x3 : Int32) (z : (Nat → Int32)) (k11 : Int32 → Int32 → (Nat → Int32) → Option (Int32 × (Nat → Int32))) (hk11 : (∀ (x2 : Int32) (x3 : Int32) (z : (Nat → Int32)), k11 x2 x3 z = some r → wAt p l e (rmk 4 0 0 93) s m av below meth c D A 4 0 0 Q 11 [] [(0, .ref to), (1, .int x1), (2, .int x2), (3, .int x3)] (wX7 kI kJ to ta z nst his len txt thr god prm npr cov siz pts rea pla bef has))), fX7_harmlessNow_J57 x1 x2 x3 z k11 = some r → wAt p l e (rmk 4 0 0 93) s m av below meth c D A 4 0 0 Q 57 [] [(0, .ref to), (1, .int x1), (2, .int x2), (3, .int x3)] (wX7 kI kJ to ta z nst his len txt thr god prm npr cov siz pts rea pla bef has) := by
    intro x1 x2 x3 z k11 hk11 hrun H locs ls hP hD hS hl
    unfold fX7_harmlessNow_J57 at hrun
    refine lv_iload_n hx hb dX7_harmlessNow_57 rfl (lv_at hl 2 rfl) ?_
    exact c_J58 x1 x3 x2 z k11 hk11  hrun _ _ _ hP hD hS (lv_sub hl [0, 1, 3] rfl)
  have c_J65 : ∀ (x1 : Int32) (x2 : Int32) (z : (Nat → Int32)), fX7_harmlessNow_J65 x1 x2 z = some r → wAt p l e (rmk 4 0 0 93) s m av below meth c D A 4 0 0 Q 65 [] [(0, .ref to), (1, .int x1), (2, .int x2)] (wX7 kI kJ to ta z nst his len txt thr god prm npr cov siz pts rea pla bef has) := by
    intro x1 x2 z hrun H locs ls hP hD hS hl
    unfold fX7_harmlessNow_J65 at hrun
    refine lv_aload_n hx hb dX7_harmlessNow_65 rfl (lv_at hl 0 rfl) ?_
    refine va_get (D := D) (ci := 6) (v := .ref (ta 0)) (C := RX7) (T := TX7) (N := 16) hx hb hts iX7_harmlessNow_X7 hown hK hP 0 rfl rfl 0 (by decide) (hts _ mX7_harmlessNow_1) (fun _ h9 => h9) rfl dX7_harmlessNow_66 ?_
    refine lv_iconst (v := 1) hx hb dX7_harmlessNow_69 (by decide) ?_
    refine lv_iload_n hx hb dX7_harmlessNow_70 rfl (lv_at hl 1 rfl) ?_
    obtain ⟨hin, hrun⟩ := gd_some hrun
    refine va_iast hx hb hK hP hD hS 1 0 rfl rfl hin dX7_harmlessNow_71 (fun H locs hP hD hS => ?_)
    have hP : va_P D vwCl (wX7 kI kJ to ta (upd z ((1 : Int32)).toNatClampNeg x1) nst his len txt thr god prm npr cov siz pts rea pla bef has) H := hP
    have hD : va_D A (wX7 kI kJ to ta (upd z ((1 : Int32)).toNatClampNeg x1) nst his len txt thr god prm npr cov siz pts rea pla bef has) := hD
    refine lv_iload_n hx hb dX7_harmlessNow_72 rfl (lv_at hl 2 rfl) ?_
    obtain rfl := Option.some.inj hrun
    exact hret _ _ _ _ rfl dX7_harmlessNow_73 hP hD hS
  have c_L11 : ∀ (x1 : Int32) (n : Nat) (x2 : Int32) (x3 : Int32) (z : (Nat → Int32)), fX7_harmlessNow_L11 x1 n x2 x3 z = some r → wAt p l e (rmk 4 0 0 93) s m av below meth c D A 4 0 0 Q 11 [] [(0, .ref to), (1, .int x1), (2, .int x2), (3, .int x3)] (wX7 kI kJ to ta z nst his len txt thr god prm npr cov siz pts rea pla bef has) := by
    intro x1 n
    induction n with
    | zero =>
      intro x2 x3 z hrun
      rw [fX7_harmlessNow_L11] at hrun
      cases hrun
    | succ n ih =>
      intro x2 x3 z hrun H locs ls hP hD hS hl
      rw [fX7_harmlessNow_L11] at hrun
      refine lv_iload_n hx hb dX7_harmlessNow_11 rfl (lv_at hl 3 rfl) ?_
      refine lv_aload_n hx hb dX7_harmlessNow_12 rfl (lv_at hl 0 rfl) ?_
      obtain ⟨q_1, hq_1, hrun⟩ := bd_some hrun
      refine cI_callV (As := []) (rest := [.int x3]) (wr := []) (wN := (wX7 kI kJ to ta z nst his len txt thr god prm npr cov siz pts rea pla bef has)) (ci := 6) (q0 := 0) hE (c_X7_rows l D kI kJ kS to ta  z nst his len txt thr god prm npr cov siz pts rea pla bef has hq_1) (cwV 0 hts gX7_harmlessNow_X7_rows rfl rfl rfl (by decide +kernel) ⟨Nat.le_of_ble_eq_true rfl, Nat.le_of_ble_eq_true rfl⟩) hP hD hS [0, 1, 2, 3, 4, 5, 6, 7, 8, 9] [] [0, 1, 2, 3, 4, 5, 6, 7, 8, 9] rfl rfl rfl rfl (by decide) rfl rfl rfl rfl rfl hl.1 rfl (Nat.le_of_ble_eq_true rfl) dX7_harmlessNow_13 ⟨Nat.le_of_ble_eq_true rfl, Nat.le_of_ble_eq_true rfl⟩ (fun H locs hP hD hS => ?_)
      refine lv_icmp_ge (tgt := 65) hx hb dX7_harmlessNow_16 (by decide) (fun hc => ?_) (fun hc => ?_)
      · have hrun := it_t hc hrun
        exact c_J65 x1 x2 z  hrun _ _ _ hP hD hS (lv_sub hl [0, 1, 2] rfl)
      · have hrun := it_f hc hrun
        refine lv_aload_n hx hb dX7_harmlessNow_19 rfl (lv_at hl 0 rfl) ?_
        refine va_get (D := D) (ci := 6) (v := .ref (ta 0)) (C := RX7) (T := TX7) (N := 16) hx hb hts iX7_harmlessNow_X7 hown hK hP 0 rfl rfl 0 (by decide) (hts _ mX7_harmlessNow_1) (fun _ h9 => h9) rfl dX7_harmlessNow_20 ?_
        refine lv_iconst (v := 1) hx hb dX7_harmlessNow_23 (by decide) ?_
        refine lv_aload_n hx hb dX7_harmlessNow_24 rfl (lv_at hl 0 rfl) ?_
        obtain ⟨q_2, hq_2, hrun⟩ := bd_some hrun
        refine cI_callV (As := []) (rest := [.int 1, .ref (ta 0)]) (wr := []) (wN := (wX7 kI kJ to ta z nst his len txt thr god prm npr cov siz pts rea pla bef has)) (ci := 6) (q0 := 0) hE (c_X7_rows l D kI kJ kS to ta  z nst his len txt thr god prm npr cov siz pts rea pla bef has hq_2) (cwV 0 hts gX7_harmlessNow_X7_rows rfl rfl rfl (by decide +kernel) ⟨Nat.le_of_ble_eq_true rfl, Nat.le_of_ble_eq_true rfl⟩) hP hD hS [0, 1, 2, 3, 4, 5, 6, 7, 8, 9] [] [0, 1, 2, 3, 4, 5, 6, 7, 8, 9] rfl rfl rfl rfl (by decide) rfl rfl rfl rfl rfl hl.1 rfl (Nat.le_of_ble_eq_true rfl) dX7_harmlessNow_25 ⟨Nat.le_of_ble_eq_true rfl, Nat.le_of_ble_eq_true rfl⟩ (fun H locs hP hD hS => ?_)
        refine lv_iconst (v := 1) hx hb dX7_harmlessNow_28 (by decide) ?_
        refine lv_isub hx hb dX7_harmlessNow_29 ?_
        refine lv_iload_n hx hb dX7_harmlessNow_30 rfl (lv_at hl 3 rfl) ?_
        refine lv_iconst (v := (-1)) hx hb dX7_harmlessNow_31 (by decide) ?_
        refine lv_ixor hx hb dX7_harmlessNow_32 ?_
        refine lv_iand hx hb dX7_harmlessNow_33 ?_
        obtain ⟨hin, hrun⟩ := gd_some hrun
        refine va_iast hx hb hK hP hD hS 1 0 rfl rfl hin dX7_harmlessNow_34 (fun H locs hP hD hS => ?_)
        have hP : va_P D vwCl (wX7 kI kJ to ta (upd z ((1 : Int32)).toNatClampNeg ((q_2 - 1) &&& (x3 ^^^ ((-1))))) nst his len txt thr god prm npr cov siz pts rea pla bef has) H := hP
        have hD : va_D A (wX7 kI kJ to ta (upd z ((1 : Int32)).toNatClampNeg ((q_2 - 1) &&& (x3 ^^^ ((-1))))) nst his len txt thr god prm npr cov siz pts rea pla bef has) := hD
        obtain ⟨u_3, eu_3⟩ : ∃ y, y = upd z ((1 : Int32)).toNatClampNeg ((q_2 - 1) &&& (x3 ^^^ ((-1)))) := ⟨_, rfl⟩
        have hrun := lt_some eu_3 hrun
        rw [← eu_3] at hP hD
        refine lv_iload_n hx hb dX7_harmlessNow_35 rfl (lv_at hl 3 rfl) ?_
        obtain ⟨q_4, hq_4, hrun⟩ := bd_some hrun
        refine cI_callS (As := [.int x3]) (rest := []) (wr := (wX7 kI kJ to ta u_3 nst his len txt thr god prm npr cov siz pts rea pla bef has)) (wN := (wX7 kI kJ to ta u_3 nst his len txt thr god prm npr cov siz pts rea pla bef has)) hE (c_X7_ones l D kI kJ kS x3  hq_4) (va_cwS 1 hts gX7_harmlessNow_X7_ones rfl rfl rfl (by decide +kernel) ⟨Nat.le_of_ble_eq_true rfl, Nat.le_of_ble_eq_true rfl⟩) hP hD hS [] [0, 1, 2, 3, 4, 5, 6, 7, 8, 9] [0, 1, 2, 3, 4, 5, 6, 7, 8, 9] rfl rfl rfl rfl (by decide) rfl rfl rfl hl.1 rfl (Nat.le_of_ble_eq_true rfl) dX7_harmlessNow_36 ⟨Nat.le_of_ble_eq_true rfl, Nat.le_of_ble_eq_true rfl⟩ (fun H locs hP hD hS => ?_)
        refine lv_iload_n hx hb dX7_harmlessNow_39 rfl (lv_at hl 2 rfl) ?_
        obtain ⟨q_5, hq_5, hrun⟩ := bd_some hrun
        refine cI_callS (As := [.int x2]) (rest := [.int q_4]) (wr := (wX7 kI kJ to ta u_3 nst his len txt thr god prm npr cov siz pts rea pla bef has)) (wN := (wX7 kI kJ to ta u_3 nst his len txt thr god prm npr cov siz pts rea pla bef has)) hE (c_X7_ones l D kI kJ kS x2  hq_5) (va_cwS 1 hts gX7_harmlessNow_X7_ones rfl rfl rfl (by decide +kernel) ⟨Nat.le_of_ble_eq_true rfl, Nat.le_of_ble_eq_true rfl⟩) hP hD hS [] [0, 1, 2, 3, 4, 5, 6, 7, 8, 9] [0, 1, 2, 3, 4, 5, 6, 7, 8, 9] rfl rfl rfl rfl (by decide) rfl rfl rfl hl.1 rfl (Nat.le_of_ble_eq_true rfl) dX7_harmlessNow_40 ⟨Nat.le_of_ble_eq_true rfl, Nat.le_of_ble_eq_true rfl⟩ (fun H locs hP hD hS => ?_)
        refine lv_icmp_le (tgt := 57) hx hb dX7_harmlessNow_43 (by decide) (fun hc => ?_) (fun hc => ?_)
        · have hrun := it_t hc hrun
          exact c_J57 x1 x2 x3 u_3 (fX7_harmlessNow_L11 x1 n) ih  hrun _ _ _ hP hD hS (lv_sub hl [0, 1, 2, 3] rfl)
        · have hrun := it_f hc hrun
          refine lv_aload_n hx hb dX7_harmlessNow_46 rfl (lv_at hl 0 rfl) ?_
          obtain ⟨q_6, hq_6, hrun⟩ := bd_some hrun
          refine cI_callV (As := []) (rest := []) (wr := []) (wN := (wX7 kI kJ to ta u_3 nst his len txt thr god prm npr cov siz pts rea pla bef has)) (ci := 6) (q0 := 0) hE (c_X7_undecided l D kI kJ kS to ta  u_3 nst his len txt thr god prm npr cov siz pts rea pla bef has hq_6) (cwV 0 hts gX7_harmlessNow_X7_undecided rfl rfl rfl (by decide +kernel) ⟨Nat.le_of_ble_eq_true rfl, Nat.le_of_ble_eq_true rfl⟩) hP hD hS [0, 1, 2, 3, 4, 5, 6, 7, 8, 9] [] [0, 1, 2, 3, 4, 5, 6, 7, 8, 9] rfl rfl rfl rfl (by decide) rfl rfl rfl rfl rfl hl.1 rfl (Nat.le_of_ble_eq_true rfl) dX7_harmlessNow_47 ⟨Nat.le_of_ble_eq_true rfl, Nat.le_of_ble_eq_true rfl⟩ (fun H locs hP hD hS => ?_)
          refine lv_if_ne (tgt := 57) hx hb dX7_harmlessNow_50 (by decide) (fun hc => ?_) (fun hc => ?_)
          · have hrun := it_f hc hrun
            exact c_J57 x1 x2 x3 u_3 (fX7_harmlessNow_L11 x1 n) ih  hrun _ _ _ hP hD hS (lv_sub hl [0, 1, 2, 3] rfl)
          · have hrun := it_t hc hrun
            refine lv_iload_n hx hb dX7_harmlessNow_53 rfl (lv_at hl 3 rfl) ?_
            refine lv_goto (tgt := 58) hx hb dX7_harmlessNow_54 (by decide) ?_
            exact c_J58 x1 x3 x3 u_3 (fX7_harmlessNow_L11 x1 n) ih  hrun _ _ _ hP hD hS (lv_sub hl [0, 1, 3] rfl)
  unfold fX7_harmlessNow at hrun
  refine lv_aload_n hx hb dX7_harmlessNow_0 rfl (lv_at hl 0 rfl) ?_
  refine va_get (D := D) (ci := 6) (v := .ref (ta 0)) (C := RX7) (T := TX7) (N := 16) hx hb hts iX7_harmlessNow_X7 hown hK hP 0 rfl rfl 0 (by decide) (hts _ mX7_harmlessNow_1) (fun _ h9 => h9) rfl dX7_harmlessNow_1 ?_
  refine lv_iconst (v := 1) hx hb dX7_harmlessNow_4 (by decide) ?_
  obtain ⟨hin, hrun⟩ := gd_some hrun
  refine va_iald hx hb hK hP 1 0 rfl rfl hin dX7_harmlessNow_5 ?_
  refine lv_istore_n (lv' := [(1, .int (z ((1 : Int32)).toNatClampNeg)), (0, .ref to)]) hx hb dX7_harmlessNow_6 rfl hl (by decide) rfl (fun ls hl => ?_)
  refine lv_iconst (v := 0) hx hb dX7_harmlessNow_7 (by decide) ?_
  refine lv_istore_n (lv' := [(2, .int 0), (1, .int (z ((1 : Int32)).toNatClampNeg)), (0, .ref to)]) hx hb dX7_harmlessNow_8 rfl hl (by decide) rfl (fun ls hl => ?_)
  refine lv_iconst (v := 1) hx hb dX7_harmlessNow_9 (by decide) ?_
  refine lv_istore_n (lv' := [(3, .int 1), (2, .int 0), (1, .int (z ((1 : Int32)).toNatClampNeg)), (0, .ref to)]) hx hb dX7_harmlessNow_10 rfl hl (by decide) rfl (fun ls hl => ?_)
  exact c_L11 (z ((1 : Int32)).toNatClampNeg) 5000 0 1 z  hrun _ _ _ hP hD hS (lv_sub hl [3, 2, 1, 0] rfl)
/-! ===== X7_harmless ===== -/
theorem mX7_harmless_1 : Cond.fieldLink RX7 38 "GateMazeModel" "thrown" "I" ∈ wsX7_harmless := List.mem_of_getElem? (i := 1) rfl
theorem iX7_harmless_X7 : ∀ w ∈ u_ws RX7 TX7 16, w ∈ wsX7_harmless := fun w h => List.mem_cons_of_mem _ (List.mem_append_right _ h)
set_option maxHeartbeats 4000000 in
set_option maxRecDepth 100000 in
theorem c_X7_harmless (l : Launch) (D : va_G) (kI kJ kS : ClassId) (to : Nat) (ta : Nat → Nat) (z : (Nat → Int32)) (nst : Int32) (his : (Nat → Int32)) (len : Int32) (txt : (Nat → Int32)) (thr : Int32) (god : (Nat → Int64)) (prm : (Nat → Int32)) (npr : Int32) (cov : (Nat → Int32)) (siz : (Nat → Int32)) (pts : (Nat → Int32)) (rea : Int32) (pla : Int32) (bef : (Nat → Int32)) (has : Int64) {r : Int32 × (Nat → Int32) × Int32} (hrun : fX7_harmless z = some r) : cI l D (tyL kI kJ kS) false yX7_harmless wsX7_harmless (rmk 5 0 0 116) [.ref to] (wX7 kI kJ to ta z nst his len txt thr god prm npr cov siz pts rea pla bef has) (wX7 kI kJ to ta r.2.1 nst his len txt r.2.2 god prm npr cov siz pts rea pla bef has) r.1 := by
  refine cI_of (cc := cX7_harmless) (maxL := 1) (by decide) rfl (Nat.le_of_ble_eq_true rfl) ?_
  intro p e s m av below meth c A Q ls hE hP hD hS hl hret
  have hE : ent_ p s m av meth c RX7 cX7_harmless 1 (some .int) wsX7_harmless (tyL kI kJ kS) D A false := hE
  obtain ⟨hx, hb, hml, hown, hts, hr, hlocks, hK, hA, hst⟩ := id hE
  have hl : lv_has ls 1 [(0, .ref to)] := hl
  unfold fX7_harmless at hrun
  refine lv_aload_n hx hb dX7_harmless_0 rfl (lv_at hl 0 rfl) ?_
  refine lv_iconst (v := 0) hx hb dX7_harmless_1 (by decide) ?_
  refine va_put (D := D) (ci := 6) (v := .int 0) (ty := .int) (C := RX7) (T := TX7) (N := 16) hx hb hts iX7_harmless_X7 tyX7 tyX7_ok nmX7 hown hK hP hD hS 0 rfl rfl 5 (by decide) (hts _ mX7_harmless_1) (fun _ h9 => h9) rfl (by decide +kernel) rfl rfl (Nat.le_of_ble_eq_true rfl) dX7_harmless_2 (fun H locs hP hD hS => ?_)
  have hP : va_P D vwCl (wX7 kI kJ to ta z nst his len txt 0 god prm npr cov siz pts rea pla bef has) H := hP
  have hD : va_D A (wX7 kI kJ to ta z nst his len txt 0 god prm npr cov siz pts rea pla bef has) := hD
  refine lv_aload_n hx hb dX7_harmless_5 rfl (lv_at hl 0 rfl) ?_
  obtain ⟨q_1, hq_1, hrun⟩ := bd_some hrun
  refine cI_callV (As := []) (rest := []) (wr := []) (wN := (wX7 kI kJ to ta q_1.2 nst his len txt 0 god prm npr cov siz pts rea pla bef has)) (ci := 6) (q0 := 0) hE (c_X7_harmlessNow l D kI kJ kS to ta  z nst his len txt 0 god prm npr cov siz pts rea pla bef has hq_1) (cwV 0 hts gX7_harmless_X7_harmlessNow rfl rfl rfl (by decide +kernel) ⟨Nat.le_of_ble_eq_true rfl, Nat.le_of_ble_eq_true rfl⟩) hP hD hS [0, 1, 2, 3, 4, 5, 6, 7, 8, 9] [] [0, 1, 2, 3, 4, 5, 6, 7, 8, 9] rfl rfl rfl rfl (by decide) rfl rfl rfl rfl rfl hl.1 rfl (Nat.le_of_ble_eq_true rfl) dX7_harmless_6 ⟨Nat.le_of_ble_eq_true rfl, Nat.le_of_ble_eq_true rfl⟩ (fun H locs hP hD hS => ?_)
  obtain rfl := Option.some.inj hrun
  exact hret _ _ _ _ rfl dX7_harmless_9 hP hD hS
/-! ===== X7_alikeNow ===== -/
set_option maxHeartbeats 4000000 in
set_option maxRecDepth 100000 in
theorem c_X7_alikeNow (l : Launch) (D : va_G) (kI kJ kS : ClassId) (to : Nat) (ta : Nat → Nat) (x1 : Int32) (x2 : Int32) (z : (Nat → Int32)) (nst : Int32) (his : (Nat → Int32)) (len : Int32) (txt : (Nat → Int32)) (thr : Int32) (god : (Nat → Int64)) (prm : (Nat → Int32)) (npr : Int32) (cov : (Nat → Int32)) (siz : (Nat → Int32)) (pts : (Nat → Int32)) (rea : Int32) (pla : Int32) (bef : (Nat → Int32)) (has : Int64) {r : Int32} (hrun : fX7_alikeNow z cov siz x1 x2 = some r) : cI l D (tyL kI kJ kS) false yX7_alikeNow wsX7_alikeNow (rmk 1 0 0 25) [.ref to, .int x1, .int x2] (wX7 kI kJ to ta z nst his len txt thr god prm npr cov siz pts rea pla bef has) (wX7 kI kJ to ta z nst his len txt thr god prm npr cov siz pts rea pla bef has) r := by
  refine cI_of (cc := cX7_alikeNow) (maxL := 5) (by decide) rfl (Nat.le_of_ble_eq_true rfl) ?_
  intro p e s m av below meth c A Q ls hE hP hD hS hl hret
  have hE : ent_ p s m av meth c RX7 cX7_alikeNow 5 (some .int) wsX7_alikeNow (tyL kI kJ kS) D A false := hE
  obtain ⟨hx, hb, hml, hown, hts, hr, hlocks, hK, hA, hst⟩ := id hE
  have hl : lv_has ls 5 [(0, .ref to), (1, .int x1), (2, .int x2)] := hl
  have c_J37 : ∀ (x1 : Int32) (x2 : Int32) (x4 : Int32) (s0 : Int32) (s1 : Int32) (k5 : Int32 → Int32 → Option (Int32)) (hk5 : (∀ (x3 : Int32) (x4 : Int32), k5 x3 x4 = some r → wAt p l e (rmk 1 0 0 25) s m av below meth c D A 5 0 0 Q 5 [] [(0, .ref to), (1, .int x1), (2, .int x2), (3, .int x3), (4, .int x4)] (wX7 kI kJ to ta z nst his len txt thr god prm npr cov siz pts rea pla bef has))), fX7_alikeNow_J37 x1 x2 x4 s0 s1 z cov siz k5 = some r → wAt p l e (rmk 1 0 0 25) s m av below meth c D A 5 0 0 Q 37 [.int s0, .int s1] [(0, .ref to), (1, .int x1), (2, .int x2), (4, .int x4)] (wX7 kI kJ to ta z nst his len txt thr god prm npr cov siz pts rea pla bef has) := by
    intro x1 x2 x4 s0 s1 k5 hk5 hrun H locs ls hP hD hS hl
    unfold fX7_alikeNow_J37 at hrun
    refine lv_iadd hx hb dX7_alikeNow_37 ?_
    refine lv_istore_n (lv' := [(3, .int (s1 + s0)), (0, .ref to), (1, .int x1), (2, .int x2), (4, .int x4)]) hx hb dX7_alikeNow_38 rfl hl (by decide) rfl (fun ls hl => ?_)
    refine lv_iinc (v := x4 + 1) (lv' := [(4, .int (x4 + 1)), (3, .int (s1 + s0)), (0, .ref to), (1, .int x1), (2, .int x2)]) hx hb dX7_alikeNow_39 hl (k := 4) rfl rfl (by decide) rfl (fun ls hl => ?_)
    refine lv_goto (tgt := 5) hx hb dX7_alikeNow_42 (by decide) ?_
    exact hk5 (s1 + s0) (x4 + 1)  hrun _ _ _ hP hD hS (lv_sub hl [2, 3, 4, 1, 0] rfl)
  have c_L5 : ∀ (x1 : Int32) (x2 : Int32) (n : Nat) (x3 : Int32) (x4 : Int32), fX7_alikeNow_L5 x1 x2 z cov siz n x3 x4 = some r → wAt p l e (rmk 1 0 0 25) s m av below meth c D A 5 0 0 Q 5 [] [(0, .ref to), (1, .int x1), (2, .int x2), (3, .int x3), (4, .int x4)] (wX7 kI kJ to ta z nst his len txt thr god prm npr cov siz pts rea pla bef has) := by
    intro x1 x2 n
    induction n with
    | zero =>
      intro x3 x4 hrun
      rw [fX7_alikeNow_L5] at hrun
      cases hrun
    | succ n ih =>
      intro x3 x4 hrun H locs ls hP hD hS hl
      rw [fX7_alikeNow_L5] at hrun
      refine lv_iload hx hb dX7_alikeNow_5 (lv_at hl 4 rfl) ?_
      refine lv_aload_n hx hb dX7_alikeNow_7 rfl (lv_at hl 0 rfl) ?_
      obtain ⟨q_1, hq_1, hrun⟩ := bd_some hrun
      refine cI_callV (As := []) (rest := [.int x4]) (wr := []) (wN := (wX7 kI kJ to ta z nst his len txt thr god prm npr cov siz pts rea pla bef has)) (ci := 6) (q0 := 0) hE (c_X7_rows l D kI kJ kS to ta  z nst his len txt thr god prm npr cov siz pts rea pla bef has hq_1) (cwV 0 hts gX7_alikeNow_X7_rows rfl rfl rfl (by decide +kernel) ⟨Nat.le_of_ble_eq_true rfl, Nat.le_of_ble_eq_true rfl⟩) hP hD hS [0, 1, 2, 3, 4, 5, 6, 7, 8, 9] [] [0, 1, 2, 3, 4, 5, 6, 7, 8, 9] rfl rfl rfl rfl (by decide) rfl rfl rfl rfl rfl hl.1 rfl (Nat.le_of_ble_eq_true rfl) dX7_alikeNow_8 ⟨Nat.le_of_ble_eq_true rfl, Nat.le_of_ble_eq_true rfl⟩ (fun H locs hP hD hS => ?_)
      refine lv_icmp_ge (tgt := 45) hx hb dX7_alikeNow_11 (by decide) (fun hc => ?_) (fun hc => ?_)
      · have hrun := it_t hc hrun
        refine lv_iload_n hx hb dX7_alikeNow_45 rfl (lv_at hl 3 rfl) ?_
        obtain rfl := Option.some.inj hrun
        exact hret _ _ _ _ rfl dX7_alikeNow_46 hP hD hS
      · have hrun := it_f hc hrun
        refine lv_iload_n hx hb dX7_alikeNow_14 rfl (lv_at hl 3 rfl) ?_
        refine lv_aload_n hx hb dX7_alikeNow_15 rfl (lv_at hl 0 rfl) ?_
        refine lv_iload_n hx hb dX7_alikeNow_16 rfl (lv_at hl 1 rfl) ?_
        refine lv_iload hx hb dX7_alikeNow_17 (lv_at hl 4 rfl) ?_
        obtain ⟨q_2, hq_2, hrun⟩ := bd_some hrun
        refine cI_callV (As := [.int x1, .int x4]) (rest := [.int x3]) (wr := []) (wN := (wX7 kI kJ to ta z nst his len txt thr god prm npr cov siz pts rea pla bef has)) (ci := 6) (q0 := 0) hE (c_X7_answer l D kI kJ kS to ta x1 x4 z nst his len txt thr god prm npr cov siz pts rea pla bef has hq_2) (cwV 2 hts gX7_alikeNow_X7_answer rfl rfl rfl (by decide +kernel) ⟨Nat.le_of_ble_eq_true rfl, Nat.le_of_ble_eq_true rfl⟩) hP hD hS [0, 1, 2, 3, 4, 5, 6, 7, 8, 9] [] [0, 1, 2, 3, 4, 5, 6, 7, 8, 9] rfl rfl rfl rfl (by decide) rfl rfl rfl rfl rfl hl.1 rfl (Nat.le_of_ble_eq_true rfl) dX7_alikeNow_19 ⟨Nat.le_of_ble_eq_true rfl, Nat.le_of_ble_eq_true rfl⟩ (fun H locs hP hD hS => ?_)
        refine lv_aload_n hx hb dX7_alikeNow_22 rfl (lv_at hl 0 rfl) ?_
        refine lv_iload_n hx hb dX7_alikeNow_23 rfl (lv_at hl 2 rfl) ?_
        refine lv_iload hx hb dX7_alikeNow_24 (lv_at hl 4 rfl) ?_
        obtain ⟨q_3, hq_3, hrun⟩ := bd_some hrun
        refine cI_callV (As := [.int x2, .int x4]) (rest := [.int q_2, .int x3]) (wr := []) (wN := (wX7 kI kJ to ta z nst his len txt thr god prm npr cov siz pts rea pla bef has)) (ci := 6) (q0 := 0) hE (c_X7_answer l D kI kJ kS to ta x2 x4 z nst his len txt thr god prm npr cov siz pts rea pla bef has hq_3) (cwV 2 hts gX7_alikeNow_X7_answer rfl rfl rfl (by decide +kernel) ⟨Nat.le_of_ble_eq_true rfl, Nat.le_of_ble_eq_true rfl⟩) hP hD hS [0, 1, 2, 3, 4, 5, 6, 7, 8, 9] [] [0, 1, 2, 3, 4, 5, 6, 7, 8, 9] rfl rfl rfl rfl (by decide) rfl rfl rfl rfl rfl hl.1 rfl (Nat.le_of_ble_eq_true rfl) dX7_alikeNow_26 ⟨Nat.le_of_ble_eq_true rfl, Nat.le_of_ble_eq_true rfl⟩ (fun H locs hP hD hS => ?_)
        refine lv_icmp_ne (tgt := 36) hx hb dX7_alikeNow_29 (by decide) (fun hc => ?_) (fun hc => ?_)
        · have hrun := it_f hc hrun
          refine lv_iconst (v := 0) hx hb dX7_alikeNow_36 (by decide) ?_
          exact c_J37 x1 x2 x4 0 x3 (fX7_alikeNow_L5 x1 x2 z cov siz n) ih  hrun _ _ _ hP hD hS (lv_sub hl [0, 1, 2, 4] rfl)
        · have hrun := it_t hc hrun
          refine lv_iconst (v := 1) hx hb dX7_alikeNow_32 (by decide) ?_
          refine lv_goto (tgt := 37) hx hb dX7_alikeNow_33 (by decide) ?_
          exact c_J37 x1 x2 x4 1 x3 (fX7_alikeNow_L5 x1 x2 z cov siz n) ih  hrun _ _ _ hP hD hS (lv_sub hl [0, 1, 2, 4] rfl)
  unfold fX7_alikeNow at hrun
  refine lv_iconst (v := 0) hx hb dX7_alikeNow_0 (by decide) ?_
  refine lv_istore_n (lv' := [(3, .int 0), (0, .ref to), (1, .int x1), (2, .int x2)]) hx hb dX7_alikeNow_1 rfl hl (by decide) rfl (fun ls hl => ?_)
  refine lv_iconst (v := 0) hx hb dX7_alikeNow_2 (by decide) ?_
  refine lv_istore (lv' := [(4, .int 0), (3, .int 0), (0, .ref to), (1, .int x1), (2, .int x2)]) hx hb dX7_alikeNow_3 hl (by decide) rfl (fun ls hl => ?_)
  exact c_L5 x1 x2 5000 0 0  hrun _ _ _ hP hD hS (lv_sub hl [2, 3, 4, 1, 0] rfl)
/-! ===== X7_alike ===== -/
theorem mX7_alike_1 : Cond.fieldLink RX7 38 "GateMazeModel" "thrown" "I" ∈ wsX7_alike := List.mem_of_getElem? (i := 1) rfl
theorem iX7_alike_X7 : ∀ w ∈ u_ws RX7 TX7 16, w ∈ wsX7_alike := fun w h => List.mem_cons_of_mem _ (List.mem_append_right _ h)
set_option maxHeartbeats 4000000 in
set_option maxRecDepth 100000 in
theorem c_X7_alike (l : Launch) (D : va_G) (kI kJ kS : ClassId) (to : Nat) (ta : Nat → Nat) (x1 : Int32) (x2 : Int32) (z : (Nat → Int32)) (nst : Int32) (his : (Nat → Int32)) (len : Int32) (txt : (Nat → Int32)) (thr : Int32) (god : (Nat → Int64)) (prm : (Nat → Int32)) (npr : Int32) (cov : (Nat → Int32)) (siz : (Nat → Int32)) (pts : (Nat → Int32)) (rea : Int32) (pla : Int32) (bef : (Nat → Int32)) (has : Int64) {r : Int32 × Int32 × (Nat → Int64) × (Nat → Int32) × Int32 × (Nat → Int32) × (Nat → Int32)} (hrun : fX7_alike z god prm npr cov siz x1 x2 = some r) : cI l D (tyL kI kJ kS) false yX7_alike wsX7_alike (rmk 6 0 0 140) [.ref to, .int x1, .int x2] (wX7 kI kJ to ta z nst his len txt thr god prm npr cov siz pts rea pla bef has) (wX7 kI kJ to ta z nst his len txt r.2.1 r.2.2.1 r.2.2.2.1 r.2.2.2.2.1 r.2.2.2.2.2.1 r.2.2.2.2.2.2 pts rea pla bef has) r.1 := by
  refine cI_of (cc := cX7_alike) (maxL := 3) (by decide) rfl (Nat.le_of_ble_eq_true rfl) ?_
  intro p e s m av below meth c A Q ls hE hP hD hS hl hret
  have hE : ent_ p s m av meth c RX7 cX7_alike 3 (some .int) wsX7_alike (tyL kI kJ kS) D A false := hE
  obtain ⟨hx, hb, hml, hown, hts, hr, hlocks, hK, hA, hst⟩ := id hE
  have hl : lv_has ls 3 [(0, .ref to), (1, .int x1), (2, .int x2)] := hl
  have c_J20 : ∀ (x1 : Int32) (x2 : Int32) (s0 : Int32) (god : (Nat → Int64)) (prm : (Nat → Int32)) (npr : Int32) (cov : (Nat → Int32)) (siz : (Nat → Int32)) (thr : Int32), fX7_alike_J20 x1 x2 s0 z god prm npr cov siz = some r → wAt p l e (rmk 6 0 0 140) s m av below meth c D A 3 0 0 Q 20 [.int s0, .ref to] [(0, .ref to), (1, .int x1), (2, .int x2)] (wX7 kI kJ to ta z nst his len txt thr god prm npr cov siz pts rea pla bef has) := by
    intro x1 x2 s0 god prm npr cov siz thr hrun H locs ls hP hD hS hl
    unfold fX7_alike_J20 at hrun
    refine va_put (D := D) (ci := 6) (v := .int s0) (ty := .int) (C := RX7) (T := TX7) (N := 16) hx hb hts iX7_alike_X7 tyX7 tyX7_ok nmX7 hown hK hP hD hS 0 rfl rfl 5 (by decide) (hts _ mX7_alike_1) (fun _ h9 => h9) rfl (by decide +kernel) rfl rfl (Nat.le_of_ble_eq_true rfl) dX7_alike_20 (fun H locs hP hD hS => ?_)
    have hP : va_P D vwCl (wX7 kI kJ to ta z nst his len txt s0 god prm npr cov siz pts rea pla bef has) H := hP
    have hD : va_D A (wX7 kI kJ to ta z nst his len txt s0 god prm npr cov siz pts rea pla bef has) := hD
    refine lv_aload_n hx hb dX7_alike_23 rfl (lv_at hl 0 rfl) ?_
    refine va_get (D := D) (ci := 6) (v := .int s0) (C := RX7) (T := TX7) (N := 16) hx hb hts iX7_alike_X7 hown hK hP 0 rfl rfl 5 (by decide) (hts _ mX7_alike_1) (fun _ h9 => h9) rfl dX7_alike_24 ?_
    refine lv_if_le (tgt := 32) hx hb dX7_alike_27 (by decide) (fun hc => ?_) (fun hc => ?_)
    · have hrun := it_t hc hrun
      refine lv_aload_n hx hb dX7_alike_32 rfl (lv_at hl 0 rfl) ?_
      obtain ⟨q_1, hq_1, hrun⟩ := bd_some hrun
      refine cV_callV (As := []) (rest := []) (wr := []) (wN := (wX7 kI kJ to ta z nst his len txt s0 q_1.1 q_1.2.1 q_1.2.2.1 q_1.2.2.2.1 q_1.2.2.2.2 pts rea pla bef has)) (ci := 6) (q0 := 0) hE (c_X7_layAll l D kI kJ kS to ta  z nst his len txt s0 god prm npr cov siz pts rea pla bef has hq_1) (cwV 0 hts gX7_alike_X7_layAll rfl rfl rfl (by decide +kernel) ⟨Nat.le_of_ble_eq_true rfl, Nat.le_of_ble_eq_true rfl⟩) hP hD hS [0, 1, 2, 3, 4, 5, 6, 7, 8, 9] [] [0, 1, 2, 3, 4, 5, 6, 7, 8, 9] rfl rfl rfl rfl (by decide) rfl rfl rfl rfl rfl hl.1 rfl (Nat.le_of_ble_eq_true rfl) dX7_alike_33 ⟨Nat.le_of_ble_eq_true rfl, Nat.le_of_ble_eq_true rfl⟩ (fun H locs hP hD hS => ?_)
      refine lv_aload_n hx hb dX7_alike_36 rfl (lv_at hl 0 rfl) ?_
      refine lv_iload_n hx hb dX7_alike_37 rfl (lv_at hl 1 rfl) ?_
      refine lv_iload_n hx hb dX7_alike_38 rfl (lv_at hl 2 rfl) ?_
      obtain ⟨q_2, hq_2, hrun⟩ := bd_some hrun
      refine cI_callV (As := [.int x1, .int x2]) (rest := []) (wr := []) (wN := (wX7 kI kJ to ta z nst his len txt s0 q_1.1 q_1.2.1 q_1.2.2.1 q_1.2.2.2.1 q_1.2.2.2.2 pts rea pla bef has)) (ci := 6) (q0 := 0) hE (c_X7_alikeNow l D kI kJ kS to ta x1 x2 z nst his len txt s0 q_1.1 q_1.2.1 q_1.2.2.1 q_1.2.2.2.1 q_1.2.2.2.2 pts rea pla bef has hq_2) (cwV 2 hts gX7_alike_X7_alikeNow rfl rfl rfl (by decide +kernel) ⟨Nat.le_of_ble_eq_true rfl, Nat.le_of_ble_eq_true rfl⟩) hP hD hS [0, 1, 2, 3, 4, 5, 6, 7, 8, 9] [] [0, 1, 2, 3, 4, 5, 6, 7, 8, 9] rfl rfl rfl rfl (by decide) rfl rfl rfl rfl rfl hl.1 rfl (Nat.le_of_ble_eq_true rfl) dX7_alike_39 ⟨Nat.le_of_ble_eq_true rfl, Nat.le_of_ble_eq_true rfl⟩ (fun H locs hP hD hS => ?_)
      obtain rfl := Option.some.inj hrun
      exact hret _ _ _ _ rfl dX7_alike_42 hP hD hS
    · have hrun := it_f hc hrun
      refine lv_iconst (v := 0) hx hb dX7_alike_30 (by decide) ?_
      obtain rfl := Option.some.inj hrun
      exact hret _ _ _ _ rfl dX7_alike_31 hP hD hS
  have c_J19 : ∀ (x1 : Int32) (x2 : Int32) (god : (Nat → Int64)) (prm : (Nat → Int32)) (npr : Int32) (cov : (Nat → Int32)) (siz : (Nat → Int32)) (thr : Int32), fX7_alike_J19 x1 x2 z god prm npr cov siz = some r → wAt p l e (rmk 6 0 0 140) s m av below meth c D A 3 0 0 Q 19 [.ref to] [(0, .ref to), (1, .int x1), (2, .int x2)] (wX7 kI kJ to ta z nst his len txt thr god prm npr cov siz pts rea pla bef has) := by
    intro x1 x2 god prm npr cov siz thr hrun H locs ls hP hD hS hl
    unfold fX7_alike_J19 at hrun
    refine lv_iconst (v := 1) hx hb dX7_alike_19 (by decide) ?_
    exact c_J20 x1 x2 1 god prm npr cov siz thr hrun _ _ _ hP hD hS (lv_sub hl [0, 1, 2] rfl)
  unfold fX7_alike at hrun
  refine lv_aload_n hx hb dX7_alike_0 rfl (lv_at hl 0 rfl) ?_
  refine lv_iload_n hx hb dX7_alike_1 rfl (lv_at hl 1 rfl) ?_
  obtain ⟨q_3, hq_3, hrun⟩ := bd_some hrun
  refine cI_callS (As := [.int x1]) (rest := [.ref to]) (wr := (wX7 kI kJ to ta z nst his len txt thr god prm npr cov siz pts rea pla bef has)) (wN := (wX7 kI kJ to ta z nst his len txt thr god prm npr cov siz pts rea pla bef has)) hE (c_X7_isOutput l D kI kJ kS x1  hq_3) (va_cwS 1 hts gX7_alike_X7_isOutput rfl rfl rfl (by decide +kernel) ⟨Nat.le_of_ble_eq_true rfl, Nat.le_of_ble_eq_true rfl⟩) hP hD hS [] [0, 1, 2, 3, 4, 5, 6, 7, 8, 9] [0, 1, 2, 3, 4, 5, 6, 7, 8, 9] rfl rfl rfl rfl (by decide) rfl rfl rfl hl.1 rfl (Nat.le_of_ble_eq_true rfl) dX7_alike_2 ⟨Nat.le_of_ble_eq_true rfl, Nat.le_of_ble_eq_true rfl⟩ (fun H locs hP hD hS => ?_)
  refine lv_if_eq (tgt := 19) hx hb dX7_alike_5 (by decide) (fun hc => ?_) (fun hc => ?_)
  · have hrun := it_t hc hrun
    exact c_J19 x1 x2 god prm npr cov siz thr hrun _ _ _ hP hD hS (lv_sub hl [0, 1, 2] rfl)
  · have hrun := it_f hc hrun
    refine lv_iload_n hx hb dX7_alike_8 rfl (lv_at hl 2 rfl) ?_
    obtain ⟨q_4, hq_4, hrun⟩ := bd_some hrun
    refine cI_callS (As := [.int x2]) (rest := [.ref to]) (wr := (wX7 kI kJ to ta z nst his len txt thr god prm npr cov siz pts rea pla bef has)) (wN := (wX7 kI kJ to ta z nst his len txt thr god prm npr cov siz pts rea pla bef has)) hE (c_X7_isOutput l D kI kJ kS x2  hq_4) (va_cwS 1 hts gX7_alike_X7_isOutput rfl rfl rfl (by decide +kernel) ⟨Nat.le_of_ble_eq_true rfl, Nat.le_of_ble_eq_true rfl⟩) hP hD hS [] [0, 1, 2, 3, 4, 5, 6, 7, 8, 9] [0, 1, 2, 3, 4, 5, 6, 7, 8, 9] rfl rfl rfl rfl (by decide) rfl rfl rfl hl.1 rfl (Nat.le_of_ble_eq_true rfl) dX7_alike_9 ⟨Nat.le_of_ble_eq_true rfl, Nat.le_of_ble_eq_true rfl⟩ (fun H locs hP hD hS => ?_)
    refine lv_if_eq (tgt := 19) hx hb dX7_alike_12 (by decide) (fun hc => ?_) (fun hc => ?_)
    · have hrun := it_t hc hrun
      exact c_J19 x1 x2 god prm npr cov siz thr hrun _ _ _ hP hD hS (lv_sub hl [0, 1, 2] rfl)
    · have hrun := it_f hc hrun
      refine lv_iconst (v := 0) hx hb dX7_alike_15 (by decide) ?_
      refine lv_goto (tgt := 20) hx hb dX7_alike_16 (by decide) ?_
      exact c_J20 x1 x2 0 god prm npr cov siz thr hrun _ _ _ hP hD hS (lv_sub hl [0, 1, 2] rfl)
/-! ===== X7_nearestNow ===== -/
set_option maxHeartbeats 4000000 in
set_option maxRecDepth 100000 in
theorem c_X7_nearestNow (l : Launch) (D : va_G) (kI kJ kS : ClassId) (to : Nat) (ta : Nat → Nat) (x1 : Int32) (x2 : Int32) (z : (Nat → Int32)) (nst : Int32) (his : (Nat → Int32)) (len : Int32) (txt : (Nat → Int32)) (thr : Int32) (god : (Nat → Int64)) (prm : (Nat → Int32)) (npr : Int32) (cov : (Nat → Int32)) (siz : (Nat → Int32)) (pts : (Nat → Int32)) (rea : Int32) (pla : Int32) (bef : (Nat → Int32)) (has : Int64) {r : Int32} (hrun : fX7_nearestNow z x1 x2 = some r) : cI l D (tyL kI kJ kS) false yX7_nearestNow wsX7_nearestNow (rmk 2 0 0 47) [.ref to, .int x1, .int x2] (wX7 kI kJ to ta z nst his len txt thr god prm npr cov siz pts rea pla bef has) (wX7 kI kJ to ta z nst his len txt thr god prm npr cov siz pts rea pla bef has) r := by
  refine cI_of (cc := cX7_nearestNow) (maxL := 6) (by decide) rfl (Nat.le_of_ble_eq_true rfl) ?_
  intro p e s m av below meth c A Q ls hE hP hD hS hl hret
  have hE : ent_ p s m av meth c RX7 cX7_nearestNow 6 (some .int) wsX7_nearestNow (tyL kI kJ kS) D A false := hE
  obtain ⟨hx, hb, hml, hown, hts, hr, hlocks, hK, hA, hst⟩ := id hE
  have hl : lv_has ls 6 [(0, .ref to), (1, .int x1), (2, .int x2)] := hl
  have c_J53 : ∀ (x1 : Int32) (x2 : Int32) (x3 : Int32) (x4 : Int32) (x5 : Int32) (k9 : Int32 → Int32 → Int32 → Option (Int32)) (hk9 : (∀ (x3 : Int32) (x4 : Int32) (x5 : Int32), k9 x3 x4 x5 = some r → wAt p l e (rmk 2 0 0 47) s m av below meth c D A 6 0 0 Q 9 [] [(0, .ref to), (1, .int x1), (2, .int x2), (3, .int x3), (4, .int x4), (5, .int x5)] (wX7 kI kJ to ta z nst his len txt thr god prm npr cov siz pts rea pla bef has))), fX7_nearestNow_J53 x1 x2 x3 x4 x5 z k9 = some r → wAt p l e (rmk 2 0 0 47) s m av below meth c D A 6 0 0 Q 53 [] [(0, .ref to), (1, .int x1), (2, .int x2), (3, .int x3), (4, .int x4), (5, .int x5)] (wX7 kI kJ to ta z nst his len txt thr god prm npr cov siz pts rea pla bef has) := by
    intro x1 x2 x3 x4 x5 k9 hk9 hrun H locs ls hP hD hS hl
    unfold fX7_nearestNow_J53 at hrun
    refine lv_iinc (v := x5 + 1) (lv' := [(5, .int (x5 + 1)), (0, .ref to), (1, .int x1), (2, .int x2), (3, .int x3), (4, .int x4)]) hx hb dX7_nearestNow_53 hl (k := 5) rfl rfl (by decide) rfl (fun ls hl => ?_)
    refine lv_goto (tgt := 9) hx hb dX7_nearestNow_56 (by decide) ?_
    exact hk9 x3 x4 (x5 + 1)  hrun _ _ _ hP hD hS (lv_sub hl [1, 2, 3, 4, 5, 0] rfl)
  have c_L9 : ∀ (x1 : Int32) (x2 : Int32) (n : Nat) (x3 : Int32) (x4 : Int32) (x5 : Int32), fX7_nearestNow_L9 x1 x2 z n x3 x4 x5 = some r → wAt p l e (rmk 2 0 0 47) s m av below meth c D A 6 0 0 Q 9 [] [(0, .ref to), (1, .int x1), (2, .int x2), (3, .int x3), (4, .int x4), (5, .int x5)] (wX7 kI kJ to ta z nst his len txt thr god prm npr cov siz pts rea pla bef has) := by
    intro x1 x2 n
    induction n with
    | zero =>
      intro x3 x4 x5 hrun
      rw [fX7_nearestNow_L9] at hrun
      cases hrun
    | succ n ih =>
      intro x3 x4 x5 hrun H locs ls hP hD hS hl
      rw [fX7_nearestNow_L9] at hrun
      refine lv_iload hx hb dX7_nearestNow_9 (lv_at hl 5 rfl) ?_
      refine lv_aload_n hx hb dX7_nearestNow_11 rfl (lv_at hl 0 rfl) ?_
      obtain ⟨q_1, hq_1, hrun⟩ := bd_some hrun
      refine cI_callV (As := []) (rest := [.int x5]) (wr := []) (wN := (wX7 kI kJ to ta z nst his len txt thr god prm npr cov siz pts rea pla bef has)) (ci := 6) (q0 := 0) hE (c_X7_rows l D kI kJ kS to ta  z nst his len txt thr god prm npr cov siz pts rea pla bef has hq_1) (cwV 0 hts gX7_nearestNow_X7_rows rfl rfl rfl (by decide +kernel) ⟨Nat.le_of_ble_eq_true rfl, Nat.le_of_ble_eq_true rfl⟩) hP hD hS [0, 1, 2, 3, 4, 5, 6, 7, 8, 9] [] [0, 1, 2, 3, 4, 5, 6, 7, 8, 9] rfl rfl rfl rfl (by decide) rfl rfl rfl rfl rfl hl.1 rfl (Nat.le_of_ble_eq_true rfl) dX7_nearestNow_12 ⟨Nat.le_of_ble_eq_true rfl, Nat.le_of_ble_eq_true rfl⟩ (fun H locs hP hD hS => ?_)
      refine lv_icmp_ge (tgt := 59) hx hb dX7_nearestNow_15 (by decide) (fun hc => ?_) (fun hc => ?_)
      · have hrun := it_t hc hrun
        refine lv_iload_n hx hb dX7_nearestNow_59 rfl (lv_at hl 3 rfl) ?_
        obtain rfl := Option.some.inj hrun
        exact hret _ _ _ _ rfl dX7_nearestNow_60 hP hD hS
      · have hrun := it_f hc hrun
        refine lv_aload_n hx hb dX7_nearestNow_18 rfl (lv_at hl 0 rfl) ?_
        refine lv_iload_n hx hb dX7_nearestNow_19 rfl (lv_at hl 1 rfl) ?_
        refine lv_iload hx hb dX7_nearestNow_20 (lv_at hl 5 rfl) ?_
        obtain ⟨q_2, hq_2, hrun⟩ := bd_some hrun
        refine cI_callV (As := [.int x1, .int x5]) (rest := []) (wr := []) (wN := (wX7 kI kJ to ta z nst his len txt thr god prm npr cov siz pts rea pla bef has)) (ci := 6) (q0 := 0) hE (c_X7_decided l D kI kJ kS to ta x1 x5 z nst his len txt thr god prm npr cov siz pts rea pla bef has hq_2) (cwV 2 hts gX7_nearestNow_X7_decided rfl rfl rfl (by decide +kernel) ⟨Nat.le_of_ble_eq_true rfl, Nat.le_of_ble_eq_true rfl⟩) hP hD hS [0, 1, 2, 3, 4, 5, 6, 7, 8, 9] [] [0, 1, 2, 3, 4, 5, 6, 7, 8, 9] rfl rfl rfl rfl (by decide) rfl rfl rfl rfl rfl hl.1 rfl (Nat.le_of_ble_eq_true rfl) dX7_nearestNow_22 ⟨Nat.le_of_ble_eq_true rfl, Nat.le_of_ble_eq_true rfl⟩ (fun H locs hP hD hS => ?_)
        refine lv_iconst (v := 3) hx hb dX7_nearestNow_25 (by decide) ?_
        refine lv_icmp_ne (tgt := 53) hx hb dX7_nearestNow_26 (by decide) (fun hc => ?_) (fun hc => ?_)
        · have hrun := it_f hc hrun
          exact c_J53 x1 x2 x3 x4 x5 (fX7_nearestNow_L9 x1 x2 z n) ih  hrun _ _ _ hP hD hS (lv_sub hl [0, 1, 2, 3, 4, 5] rfl)
        · have hrun := it_t hc hrun
          refine lv_iload hx hb dX7_nearestNow_29 (lv_at hl 5 rfl) ?_
          refine lv_iload_n hx hb dX7_nearestNow_31 rfl (lv_at hl 2 rfl) ?_
          refine lv_ixor hx hb dX7_nearestNow_32 ?_
          obtain ⟨q_3, hq_3, hrun⟩ := bd_some hrun
          refine cI_callS (As := [.int (x5 ^^^ x2)]) (rest := []) (wr := (wX7 kI kJ to ta z nst his len txt thr god prm npr cov siz pts rea pla bef has)) (wN := (wX7 kI kJ to ta z nst his len txt thr god prm npr cov siz pts rea pla bef has)) hE (c_X7_ones l D kI kJ kS (x5 ^^^ x2)  hq_3) (va_cwS 1 hts gX7_nearestNow_X7_ones rfl rfl rfl (by decide +kernel) ⟨Nat.le_of_ble_eq_true rfl, Nat.le_of_ble_eq_true rfl⟩) hP hD hS [] [0, 1, 2, 3, 4, 5, 6, 7, 8, 9] [0, 1, 2, 3, 4, 5, 6, 7, 8, 9] rfl rfl rfl rfl (by decide) rfl rfl rfl hl.1 rfl (Nat.le_of_ble_eq_true rfl) dX7_nearestNow_33 ⟨Nat.le_of_ble_eq_true rfl, Nat.le_of_ble_eq_true rfl⟩ (fun H locs hP hD hS => ?_)
          refine lv_iload hx hb dX7_nearestNow_36 (lv_at hl 4 rfl) ?_
          refine lv_icmp_ge (tgt := 53) hx hb dX7_nearestNow_38 (by decide) (fun hc => ?_) (fun hc => ?_)
          · have hrun := it_t hc hrun
            exact c_J53 x1 x2 x3 x4 x5 (fX7_nearestNow_L9 x1 x2 z n) ih  hrun _ _ _ hP hD hS (lv_sub hl [0, 1, 2, 3, 4, 5] rfl)
          · have hrun := it_f hc hrun
            refine lv_iload hx hb dX7_nearestNow_41 (lv_at hl 5 rfl) ?_
            refine lv_istore_n (lv' := [(3, .int x5), (0, .ref to), (1, .int x1), (2, .int x2), (4, .int x4), (5, .int x5)]) hx hb dX7_nearestNow_43 rfl hl (by decide) rfl (fun ls hl => ?_)
            refine lv_iload hx hb dX7_nearestNow_44 (lv_at hl 5 rfl) ?_
            refine lv_iload_n hx hb dX7_nearestNow_46 rfl (lv_at hl 3 rfl) ?_
            refine lv_ixor hx hb dX7_nearestNow_47 ?_
            obtain ⟨q_4, hq_4, hrun⟩ := bd_some hrun
            refine cI_callS (As := [.int (x5 ^^^ x2)]) (rest := []) (wr := (wX7 kI kJ to ta z nst his len txt thr god prm npr cov siz pts rea pla bef has)) (wN := (wX7 kI kJ to ta z nst his len txt thr god prm npr cov siz pts rea pla bef has)) hE (c_X7_ones l D kI kJ kS (x5 ^^^ x2)  hq_4) (va_cwS 1 hts gX7_nearestNow_X7_ones rfl rfl rfl (by decide +kernel) ⟨Nat.le_of_ble_eq_true rfl, Nat.le_of_ble_eq_true rfl⟩) hP hD hS [] [0, 1, 2, 3, 4, 5, 6, 7, 8, 9] [0, 1, 2, 3, 4, 5, 6, 7, 8, 9] rfl rfl rfl rfl (by decide) rfl rfl rfl hl.1 rfl (Nat.le_of_ble_eq_true rfl) dX7_nearestNow_48 ⟨Nat.le_of_ble_eq_true rfl, Nat.le_of_ble_eq_true rfl⟩ (fun H locs hP hD hS => ?_)
            refine lv_istore (lv' := [(4, .int q_4), (3, .int x5), (0, .ref to), (1, .int x1), (2, .int x2), (5, .int x5)]) hx hb dX7_nearestNow_51 hl (by decide) rfl (fun ls hl => ?_)
            exact c_J53 x1 x2 x5 q_4 x5 (fX7_nearestNow_L9 x1 x2 z n) ih  hrun _ _ _ hP hD hS (lv_sub hl [2, 3, 4, 1, 0, 5] rfl)
  unfold fX7_nearestNow at hrun
  refine lv_iconst (v := (-1)) hx hb dX7_nearestNow_0 (by decide) ?_
  refine lv_istore_n (lv' := [(3, .int ((-1))), (0, .ref to), (1, .int x1), (2, .int x2)]) hx hb dX7_nearestNow_1 rfl hl (by decide) rfl (fun ls hl => ?_)
  refine lv_bipush (v := 99) hx hb dX7_nearestNow_2 (by decide) ?_
  refine lv_istore (lv' := [(4, .int 99), (3, .int ((-1))), (0, .ref to), (1, .int x1), (2, .int x2)]) hx hb dX7_nearestNow_4 hl (by decide) rfl (fun ls hl => ?_)
  refine lv_iconst (v := 0) hx hb dX7_nearestNow_6 (by decide) ?_
  refine lv_istore (lv' := [(5, .int 0), (4, .int 99), (3, .int ((-1))), (0, .ref to), (1, .int x1), (2, .int x2)]) hx hb dX7_nearestNow_7 hl (by decide) rfl (fun ls hl => ?_)
  exact c_L9 x1 x2 5000 ((-1)) 99 0  hrun _ _ _ hP hD hS (lv_sub hl [3, 4, 5, 2, 1, 0] rfl)
/-! ===== X7_nearest ===== -/
theorem mX7_nearest_1 : Cond.fieldLink RX7 38 "GateMazeModel" "thrown" "I" ∈ wsX7_nearest := List.mem_of_getElem? (i := 1) rfl
theorem iX7_nearest_X7 : ∀ w ∈ u_ws RX7 TX7 16, w ∈ wsX7_nearest := fun w h => List.mem_cons_of_mem _ (List.mem_append_right _ h)
set_option maxHeartbeats 4000000 in
set_option maxRecDepth 100000 in
theorem c_X7_nearest (l : Launch) (D : va_G) (kI kJ kS : ClassId) (to : Nat) (ta : Nat → Nat) (x1 : Int32) (x2 : Int32) (z : (Nat → Int32)) (nst : Int32) (his : (Nat → Int32)) (len : Int32) (txt : (Nat → Int32)) (thr : Int32) (god : (Nat → Int64)) (prm : (Nat → Int32)) (npr : Int32) (cov : (Nat → Int32)) (siz : (Nat → Int32)) (pts : (Nat → Int32)) (rea : Int32) (pla : Int32) (bef : (Nat → Int32)) (has : Int64) {r : Int32 × Int32} (hrun : fX7_nearest z x1 x2 = some r) : cI l D (tyL kI kJ kS) false yX7_nearest wsX7_nearest (rmk 3 0 0 72) [.ref to, .int x1, .int x2] (wX7 kI kJ to ta z nst his len txt thr god prm npr cov siz pts rea pla bef has) (wX7 kI kJ to ta z nst his len txt r.2 god prm npr cov siz pts rea pla bef has) r.1 := by
  refine cI_of (cc := cX7_nearest) (maxL := 3) (by decide) rfl (Nat.le_of_ble_eq_true rfl) ?_
  intro p e s m av below meth c A Q ls hE hP hD hS hl hret
  have hE : ent_ p s m av meth c RX7 cX7_nearest 3 (some .int) wsX7_nearest (tyL kI kJ kS) D A false := hE
  obtain ⟨hx, hb, hml, hown, hts, hr, hlocks, hK, hA, hst⟩ := id hE
  have hl : lv_has ls 3 [(0, .ref to), (1, .int x1), (2, .int x2)] := hl
  have c_J21 : ∀ (x1 : Int32) (x2 : Int32) (s0 : Int32) (thr : Int32), fX7_nearest_J21 x1 x2 s0 z = some r → wAt p l e (rmk 3 0 0 72) s m av below meth c D A 3 0 0 Q 21 [.int s0, .ref to] [(0, .ref to), (1, .int x1), (2, .int x2)] (wX7 kI kJ to ta z nst his len txt thr god prm npr cov siz pts rea pla bef has) := by
    intro x1 x2 s0 thr hrun H locs ls hP hD hS hl
    unfold fX7_nearest_J21 at hrun
    refine va_put (D := D) (ci := 6) (v := .int s0) (ty := .int) (C := RX7) (T := TX7) (N := 16) hx hb hts iX7_nearest_X7 tyX7 tyX7_ok nmX7 hown hK hP hD hS 0 rfl rfl 5 (by decide) (hts _ mX7_nearest_1) (fun _ h9 => h9) rfl (by decide +kernel) rfl rfl (Nat.le_of_ble_eq_true rfl) dX7_nearest_21 (fun H locs hP hD hS => ?_)
    have hP : va_P D vwCl (wX7 kI kJ to ta z nst his len txt s0 god prm npr cov siz pts rea pla bef has) H := hP
    have hD : va_D A (wX7 kI kJ to ta z nst his len txt s0 god prm npr cov siz pts rea pla bef has) := hD
    refine lv_aload_n hx hb dX7_nearest_24 rfl (lv_at hl 0 rfl) ?_
    refine va_get (D := D) (ci := 6) (v := .int s0) (C := RX7) (T := TX7) (N := 16) hx hb hts iX7_nearest_X7 hown hK hP 0 rfl rfl 5 (by decide) (hts _ mX7_nearest_1) (fun _ h9 => h9) rfl dX7_nearest_25 ?_
    refine lv_if_le (tgt := 35) hx hb dX7_nearest_28 (by decide) (fun hc => ?_) (fun hc => ?_)
    · have hrun := it_t hc hrun
      refine lv_aload_n hx hb dX7_nearest_35 rfl (lv_at hl 0 rfl) ?_
      refine lv_iload_n hx hb dX7_nearest_36 rfl (lv_at hl 1 rfl) ?_
      refine lv_iload_n hx hb dX7_nearest_37 rfl (lv_at hl 2 rfl) ?_
      obtain ⟨q_1, hq_1, hrun⟩ := bd_some hrun
      refine cI_callV (As := [.int x1, .int x2]) (rest := []) (wr := []) (wN := (wX7 kI kJ to ta z nst his len txt s0 god prm npr cov siz pts rea pla bef has)) (ci := 6) (q0 := 0) hE (c_X7_nearestNow l D kI kJ kS to ta x1 x2 z nst his len txt s0 god prm npr cov siz pts rea pla bef has hq_1) (cwV 2 hts gX7_nearest_X7_nearestNow rfl rfl rfl (by decide +kernel) ⟨Nat.le_of_ble_eq_true rfl, Nat.le_of_ble_eq_true rfl⟩) hP hD hS [0, 1, 2, 3, 4, 5, 6, 7, 8, 9] [] [0, 1, 2, 3, 4, 5, 6, 7, 8, 9] rfl rfl rfl rfl (by decide) rfl rfl rfl rfl rfl hl.1 rfl (Nat.le_of_ble_eq_true rfl) dX7_nearest_38 ⟨Nat.le_of_ble_eq_true rfl, Nat.le_of_ble_eq_true rfl⟩ (fun H locs hP hD hS => ?_)
      obtain rfl := Option.some.inj hrun
      exact hret _ _ _ _ rfl dX7_nearest_41 hP hD hS
    · have hrun := it_f hc hrun
      refine lv_iconst (v := 0) hx hb dX7_nearest_31 (by decide) ?_
      refine lv_goto (tgt := 41) hx hb dX7_nearest_32 (by decide) ?_
      obtain rfl := Option.some.inj hrun
      exact hret _ _ _ _ rfl dX7_nearest_41 hP hD hS
  have c_J20 : ∀ (x1 : Int32) (x2 : Int32) (thr : Int32), fX7_nearest_J20 x1 x2 z = some r → wAt p l e (rmk 3 0 0 72) s m av below meth c D A 3 0 0 Q 20 [.ref to] [(0, .ref to), (1, .int x1), (2, .int x2)] (wX7 kI kJ to ta z nst his len txt thr god prm npr cov siz pts rea pla bef has) := by
    intro x1 x2 thr hrun H locs ls hP hD hS hl
    unfold fX7_nearest_J20 at hrun
    refine lv_iconst (v := 1) hx hb dX7_nearest_20 (by decide) ?_
    exact c_J21 x1 x2 1 thr hrun _ _ _ hP hD hS (lv_sub hl [0, 1, 2] rfl)
  unfold fX7_nearest at hrun
  refine lv_aload_n hx hb dX7_nearest_0 rfl (lv_at hl 0 rfl) ?_
  refine lv_iload_n hx hb dX7_nearest_1 rfl (lv_at hl 1 rfl) ?_
  obtain ⟨q_2, hq_2, hrun⟩ := bd_some hrun
  refine cI_callS (As := [.int x1]) (rest := [.ref to]) (wr := (wX7 kI kJ to ta z nst his len txt thr god prm npr cov siz pts rea pla bef has)) (wN := (wX7 kI kJ to ta z nst his len txt thr god prm npr cov siz pts rea pla bef has)) hE (c_X7_isOutput l D kI kJ kS x1  hq_2) (va_cwS 1 hts gX7_nearest_X7_isOutput rfl rfl rfl (by decide +kernel) ⟨Nat.le_of_ble_eq_true rfl, Nat.le_of_ble_eq_true rfl⟩) hP hD hS [] [0, 1, 2, 3, 4, 5, 6, 7, 8, 9] [0, 1, 2, 3, 4, 5, 6, 7, 8, 9] rfl rfl rfl rfl (by decide) rfl rfl rfl hl.1 rfl (Nat.le_of_ble_eq_true rfl) dX7_nearest_2 ⟨Nat.le_of_ble_eq_true rfl, Nat.le_of_ble_eq_true rfl⟩ (fun H locs hP hD hS => ?_)
  refine lv_if_eq (tgt := 20) hx hb dX7_nearest_5 (by decide) (fun hc => ?_) (fun hc => ?_)
  · have hrun := it_t hc hrun
    exact c_J20 x1 x2 thr hrun _ _ _ hP hD hS (lv_sub hl [0, 1, 2] rfl)
  · have hrun := it_f hc hrun
    refine lv_aload_n hx hb dX7_nearest_8 rfl (lv_at hl 0 rfl) ?_
    refine lv_iload_n hx hb dX7_nearest_9 rfl (lv_at hl 2 rfl) ?_
    obtain ⟨q_3, hq_3, hrun⟩ := bd_some hrun
    refine cI_callV (As := [.int x2]) (rest := [.ref to]) (wr := []) (wN := (wX7 kI kJ to ta z nst his len txt thr god prm npr cov siz pts rea pla bef has)) (ci := 6) (q0 := 0) hE (c_X7_isRow l D kI kJ kS to ta x2 z nst his len txt thr god prm npr cov siz pts rea pla bef has hq_3) (cwV 1 hts gX7_nearest_X7_isRow rfl rfl rfl (by decide +kernel) ⟨Nat.le_of_ble_eq_true rfl, Nat.le_of_ble_eq_true rfl⟩) hP hD hS [0, 1, 2, 3, 4, 5, 6, 7, 8, 9] [] [0, 1, 2, 3, 4, 5, 6, 7, 8, 9] rfl rfl rfl rfl (by decide) rfl rfl rfl rfl rfl hl.1 rfl (Nat.le_of_ble_eq_true rfl) dX7_nearest_10 ⟨Nat.le_of_ble_eq_true rfl, Nat.le_of_ble_eq_true rfl⟩ (fun H locs hP hD hS => ?_)
    refine lv_if_eq (tgt := 20) hx hb dX7_nearest_13 (by decide) (fun hc => ?_) (fun hc => ?_)
    · have hrun := it_t hc hrun
      exact c_J20 x1 x2 thr hrun _ _ _ hP hD hS (lv_sub hl [0, 1, 2] rfl)
    · have hrun := it_f hc hrun
      refine lv_iconst (v := 0) hx hb dX7_nearest_16 (by decide) ?_
      refine lv_goto (tgt := 21) hx hb dX7_nearest_17 (by decide) ?_
      exact c_J21 x1 x2 0 thr hrun _ _ _ hP hD hS (lv_sub hl [0, 1, 2] rfl)
/-! ===== X7_share ===== -/
set_option maxHeartbeats 4000000 in
set_option maxRecDepth 100000 in
theorem c_X7_share (l : Launch) (D : va_G) (kI kJ kS : ClassId) (to : Nat) (ta : Nat → Nat) (z : (Nat → Int32)) (nst : Int32) (his : (Nat → Int32)) (len : Int32) (txt : (Nat → Int32)) (thr : Int32) (god : (Nat → Int64)) (prm : (Nat → Int32)) (npr : Int32) (cov : (Nat → Int32)) (siz : (Nat → Int32)) (pts : (Nat → Int32)) (rea : Int32) (pla : Int32) (bef : (Nat → Int32)) (has : Int64) {r : UInt64} (hrun : fX7_share z = some r) : cD l D (tyL kI kJ kS) false yX7_share wsX7_share (rmk 2 0 0 47) [.ref to] (wX7 kI kJ to ta z nst his len txt thr god prm npr cov siz pts rea pla bef has) (wX7 kI kJ to ta z nst his len txt thr god prm npr cov siz pts rea pla bef has) r := by
  refine cD_of (cc := cX7_share) (maxL := 6) (by decide) rfl (Nat.le_of_ble_eq_true rfl) ?_
  intro p e s m av below meth c A Q ls hE hP hD hS hl hret
  have hE : ent_ p s m av meth c RX7 cX7_share 6 (some .double) wsX7_share (tyL kI kJ kS) D A false := hE
  obtain ⟨hx, hb, hml, hown, hts, hr, hlocks, hK, hA, hst⟩ := id hE
  have hl : lv_has ls 6 [(0, .ref to)] := hl
  have c_J76 : ∀ (x1 : Int32) (x3 : Int32) (x4 : Int32) (s0 : Int32) (s1 : Int32) (k14 : Int32 → Int32 → Int32 → Option (UInt64)) (hk14 : (∀ (x1 : Int32) (x2 : Int32) (x4 : Int32), k14 x1 x2 x4 = some r → wAt p l e (rmk 2 0 0 47) s m av below meth c D A 6 0 0 Q 14 [] [(0, .ref to), (1, .int x1), (2, .int x2), (3, .int x3), (4, .int x4)] (wX7 kI kJ to ta z nst his len txt thr god prm npr cov siz pts rea pla bef has))), fX7_share_J76 x1 x3 x4 s0 s1 z k14 = some r → wAt p l e (rmk 2 0 0 47) s m av below meth c D A 6 0 0 Q 76 [.int s0, .int s1] [(0, .ref to), (1, .int x1), (3, .int x3), (4, .int x4)] (wX7 kI kJ to ta z nst his len txt thr god prm npr cov siz pts rea pla bef has) := by
    intro x1 x3 x4 s0 s1 k14 hk14 hrun H locs ls hP hD hS hl
    unfold fX7_share_J76 at hrun
    refine lv_iadd hx hb dX7_share_76 ?_
    refine lv_istore_n (lv' := [(2, .int (s1 + s0)), (0, .ref to), (1, .int x1), (3, .int x3), (4, .int x4)]) hx hb dX7_share_77 rfl hl (by decide) rfl (fun ls hl => ?_)
    refine lv_iinc (v := x4 + 1) (lv' := [(4, .int (x4 + 1)), (2, .int (s1 + s0)), (0, .ref to), (1, .int x1), (3, .int x3)]) hx hb dX7_share_78 hl (k := 4) rfl rfl (by decide) rfl (fun ls hl => ?_)
    refine lv_goto (tgt := 14) hx hb dX7_share_81 (by decide) ?_
    exact hk14 x1 (s1 + s0) (x4 + 1)  hrun _ _ _ hP hD hS (lv_sub hl [2, 3, 1, 4, 0] rfl)
  have c_J75 : ∀ (x1 : Int32) (x3 : Int32) (x4 : Int32) (s0 : Int32) (k14 : Int32 → Int32 → Int32 → Option (UInt64)) (hk14 : (∀ (x1 : Int32) (x2 : Int32) (x4 : Int32), k14 x1 x2 x4 = some r → wAt p l e (rmk 2 0 0 47) s m av below meth c D A 6 0 0 Q 14 [] [(0, .ref to), (1, .int x1), (2, .int x2), (3, .int x3), (4, .int x4)] (wX7 kI kJ to ta z nst his len txt thr god prm npr cov siz pts rea pla bef has))), fX7_share_J75 x1 x3 x4 s0 z k14 = some r → wAt p l e (rmk 2 0 0 47) s m av below meth c D A 6 0 0 Q 75 [.int s0] [(0, .ref to), (1, .int x1), (3, .int x3), (4, .int x4)] (wX7 kI kJ to ta z nst his len txt thr god prm npr cov siz pts rea pla bef has) := by
    intro x1 x3 x4 s0 k14 hk14 hrun H locs ls hP hD hS hl
    unfold fX7_share_J75 at hrun
    refine lv_iconst (v := 0) hx hb dX7_share_75 (by decide) ?_
    exact c_J76 x1 x3 x4 0 s0 k14 hk14  hrun _ _ _ hP hD hS (lv_sub hl [0, 1, 2, 3] rfl)
  have c_J52 : ∀ (x2 : Int32) (x3 : Int32) (x4 : Int32) (x5 : Int32) (s0 : Int32) (s1 : Int32) (k14 : Int32 → Int32 → Int32 → Option (UInt64)) (hk14 : (∀ (x1 : Int32) (x2 : Int32) (x4 : Int32), k14 x1 x2 x4 = some r → wAt p l e (rmk 2 0 0 47) s m av below meth c D A 6 0 0 Q 14 [] [(0, .ref to), (1, .int x1), (2, .int x2), (3, .int x3), (4, .int x4)] (wX7 kI kJ to ta z nst his len txt thr god prm npr cov siz pts rea pla bef has))), fX7_share_J52 x2 x3 x4 x5 s0 s1 z k14 = some r → wAt p l e (rmk 2 0 0 47) s m av below meth c D A 6 0 0 Q 52 [.int s0, .int s1] [(0, .ref to), (2, .int x2), (3, .int x3), (4, .int x4), (5, .int x5)] (wX7 kI kJ to ta z nst his len txt thr god prm npr cov siz pts rea pla bef has) := by
    intro x2 x3 x4 x5 s0 s1 k14 hk14 hrun H locs ls hP hD hS hl
    unfold fX7_share_J52 at hrun
    refine lv_iadd hx hb dX7_share_52 ?_
    refine lv_istore_n (lv' := [(1, .int (s1 + s0)), (0, .ref to), (2, .int x2), (3, .int x3), (4, .int x4), (5, .int x5)]) hx hb dX7_share_53 rfl hl (by decide) rfl (fun ls hl => ?_)
    refine lv_iload_n hx hb dX7_share_54 rfl (lv_at hl 2 rfl) ?_
    refine lv_iload hx hb dX7_share_55 (lv_at hl 5 rfl) ?_
    refine lv_if_eq (tgt := 75) hx hb dX7_share_57 (by decide) (fun hc => ?_) (fun hc => ?_)
    · have hrun := it_t hc hrun
      exact c_J75 (s1 + s0) x3 x4 x2 k14 hk14  hrun _ _ _ hP hD hS (lv_sub hl [1, 0, 3, 4] rfl)
    · have hrun := it_f hc hrun
      refine lv_aload_n hx hb dX7_share_60 rfl (lv_at hl 1 rfl) ?_
      refine lv_iload_n hx hb dX7_share_61 rfl (lv_at hl 3 rfl) ?_
      refine lv_iload hx hb dX7_share_62 (lv_at hl 4 rfl) ?_
      obtain ⟨q_1, hq_1, hrun⟩ := bd_some hrun
      refine cI_callV (As := [.int x3, .int x4]) (rest := [.int x2]) (wr := []) (wN := (wX7 kI kJ to ta z nst his len txt thr god prm npr cov siz pts rea pla bef has)) (ci := 6) (q0 := 0) hE (c_X7_decided l D kI kJ kS to ta x3 x4 z nst his len txt thr god prm npr cov siz pts rea pla bef has hq_1) (cwV 2 hts gX7_share_X7_decided rfl rfl rfl (by decide +kernel) ⟨Nat.le_of_ble_eq_true rfl, Nat.le_of_ble_eq_true rfl⟩) hP hD hS [0, 1, 2, 3, 4, 5, 6, 7, 8, 9] [] [0, 1, 2, 3, 4, 5, 6, 7, 8, 9] rfl rfl rfl rfl (by decide) rfl rfl rfl rfl rfl hl.1 rfl (Nat.le_of_ble_eq_true rfl) dX7_share_64 ⟨Nat.le_of_ble_eq_true rfl, Nat.le_of_ble_eq_true rfl⟩ (fun H locs hP hD hS => ?_)
      refine lv_iconst (v := 3) hx hb dX7_share_67 (by decide) ?_
      refine lv_icmp_ge (tgt := 75) hx hb dX7_share_68 (by decide) (fun hc => ?_) (fun hc => ?_)
      · have hrun := it_t hc hrun
        exact c_J75 (s1 + s0) x3 x4 x2 k14 hk14  hrun _ _ _ hP hD hS (lv_sub hl [1, 0, 3, 4] rfl)
      · have hrun := it_f hc hrun
        refine lv_iconst (v := 1) hx hb dX7_share_71 (by decide) ?_
        refine lv_goto (tgt := 76) hx hb dX7_share_72 (by decide) ?_
        exact c_J76 (s1 + s0) x3 x4 1 x2 k14 hk14  hrun _ _ _ hP hD hS (lv_sub hl [1, 0, 3, 4] rfl)
  have c_J39 : ∀ (x1 : Int32) (x2 : Int32) (x3 : Int32) (x4 : Int32) (s0 : Int32) (k14 : Int32 → Int32 → Int32 → Option (UInt64)) (hk14 : (∀ (x1 : Int32) (x2 : Int32) (x4 : Int32), k14 x1 x2 x4 = some r → wAt p l e (rmk 2 0 0 47) s m av below meth c D A 6 0 0 Q 14 [] [(0, .ref to), (1, .int x1), (2, .int x2), (3, .int x3), (4, .int x4)] (wX7 kI kJ to ta z nst his len txt thr god prm npr cov siz pts rea pla bef has))), fX7_share_J39 x1 x2 x3 x4 s0 z k14 = some r → wAt p l e (rmk 2 0 0 47) s m av below meth c D A 6 0 0 Q 39 [.int s0] [(0, .ref to), (1, .int x1), (2, .int x2), (3, .int x3), (4, .int x4)] (wX7 kI kJ to ta z nst his len txt thr god prm npr cov siz pts rea pla bef has) := by
    intro x1 x2 x3 x4 s0 k14 hk14 hrun H locs ls hP hD hS hl
    unfold fX7_share_J39 at hrun
    refine lv_istore (lv' := [(5, .int s0), (0, .ref to), (1, .int x1), (2, .int x2), (3, .int x3), (4, .int x4)]) hx hb dX7_share_39 hl (by decide) rfl (fun ls hl => ?_)
    refine lv_iload_n hx hb dX7_share_41 rfl (lv_at hl 2 rfl) ?_
    refine lv_iload hx hb dX7_share_42 (lv_at hl 0 rfl) ?_
    refine lv_if_eq (tgt := 51) hx hb dX7_share_44 (by decide) (fun hc => ?_) (fun hc => ?_)
    · have hrun := it_t hc hrun
      refine lv_iconst (v := 0) hx hb dX7_share_51 (by decide) ?_
      exact c_J52 x2 x3 x4 s0 0 x1 k14 hk14  hrun _ _ _ hP hD hS (lv_sub hl [1, 3, 4, 5, 0] rfl)
    · have hrun := it_f hc hrun
      refine lv_iconst (v := 1) hx hb dX7_share_47 (by decide) ?_
      refine lv_goto (tgt := 52) hx hb dX7_share_48 (by decide) ?_
      exact c_J52 x2 x3 x4 s0 1 x1 k14 hk14  hrun _ _ _ hP hD hS (lv_sub hl [1, 3, 4, 5, 0] rfl)
  have c_J84 : ∀ (x1 : Int32) (x2 : Int32) (x3 : Int32) (k6 : Int32 → Int32 → Int32 → Option (UInt64)) (hk6 : (∀ (x1 : Int32) (x2 : Int32) (x3 : Int32), k6 x1 x2 x3 = some r → wAt p l e (rmk 2 0 0 47) s m av below meth c D A 6 0 0 Q 6 [] [(0, .ref to), (1, .int x1), (2, .int x2), (3, .int x3)] (wX7 kI kJ to ta z nst his len txt thr god prm npr cov siz pts rea pla bef has))), fX7_share_J84 x1 x2 x3 z k6 = some r → wAt p l e (rmk 2 0 0 47) s m av below meth c D A 6 0 0 Q 84 [] [(0, .ref to), (1, .int x1), (2, .int x2), (3, .int x3)] (wX7 kI kJ to ta z nst his len txt thr god prm npr cov siz pts rea pla bef has) := by
    intro x1 x2 x3 k6 hk6 hrun H locs ls hP hD hS hl
    unfold fX7_share_J84 at hrun
    refine lv_iinc (v := x3 + 1) (lv' := [(3, .int (x3 + 1)), (0, .ref to), (1, .int x1), (2, .int x2)]) hx hb dX7_share_84 hl (k := 3) rfl rfl (by decide) rfl (fun ls hl => ?_)
    refine lv_goto (tgt := 6) hx hb dX7_share_87 (by decide) ?_
    exact hk6 x1 x2 (x3 + 1)  hrun _ _ _ hP hD hS (lv_sub hl [1, 2, 3, 0] rfl)
  have c_L14 : ∀ (x3 : Int32) (k6 : Int32 → Int32 → Int32 → Option (UInt64)) (hk6 : (∀ (x1 : Int32) (x2 : Int32) (x3 : Int32), k6 x1 x2 x3 = some r → wAt p l e (rmk 2 0 0 47) s m av below meth c D A 6 0 0 Q 6 [] [(0, .ref to), (1, .int x1), (2, .int x2), (3, .int x3)] (wX7 kI kJ to ta z nst his len txt thr god prm npr cov siz pts rea pla bef has))) (n : Nat) (x1 : Int32) (x2 : Int32) (x4 : Int32), fX7_share_L14 x3 z k6 n x1 x2 x4 = some r → wAt p l e (rmk 2 0 0 47) s m av below meth c D A 6 0 0 Q 14 [] [(0, .ref to), (1, .int x1), (2, .int x2), (3, .int x3), (4, .int x4)] (wX7 kI kJ to ta z nst his len txt thr god prm npr cov siz pts rea pla bef has) := by
    intro x3 k6 hk6 n
    induction n with
    | zero =>
      intro x1 x2 x4 hrun
      rw [fX7_share_L14] at hrun
      cases hrun
    | succ n ih =>
      intro x1 x2 x4 hrun H locs ls hP hD hS hl
      rw [fX7_share_L14] at hrun
      refine lv_iload hx hb dX7_share_14 (lv_at hl 4 rfl) ?_
      refine lv_aload_n hx hb dX7_share_16 rfl (lv_at hl 0 rfl) ?_
      obtain ⟨q_2, hq_2, hrun⟩ := bd_some hrun
      refine cI_callV (As := []) (rest := [.int x4]) (wr := []) (wN := (wX7 kI kJ to ta z nst his len txt thr god prm npr cov siz pts rea pla bef has)) (ci := 6) (q0 := 0) hE (c_X7_rows l D kI kJ kS to ta  z nst his len txt thr god prm npr cov siz pts rea pla bef has hq_2) (cwV 0 hts gX7_share_X7_rows rfl rfl rfl (by decide +kernel) ⟨Nat.le_of_ble_eq_true rfl, Nat.le_of_ble_eq_true rfl⟩) hP hD hS [0, 1, 2, 3, 4, 5, 6, 7, 8, 9] [] [0, 1, 2, 3, 4, 5, 6, 7, 8, 9] rfl rfl rfl rfl (by decide) rfl rfl rfl rfl rfl hl.1 rfl (Nat.le_of_ble_eq_true rfl) dX7_share_17 ⟨Nat.le_of_ble_eq_true rfl, Nat.le_of_ble_eq_true rfl⟩ (fun H locs hP hD hS => ?_)
      refine lv_icmp_ge (tgt := 84) hx hb dX7_share_20 (by decide) (fun hc => ?_) (fun hc => ?_)
      · have hrun := it_t hc hrun
        exact c_J84 x1 x2 x3 k6 hk6  hrun _ _ _ hP hD hS (lv_sub hl [0, 1, 2, 3] rfl)
      · have hrun := it_f hc hrun
        refine lv_aload_n hx hb dX7_share_23 rfl (lv_at hl 0 rfl) ?_
        refine lv_iload_n hx hb dX7_share_24 rfl (lv_at hl 3 rfl) ?_
        refine lv_iload hx hb dX7_share_25 (lv_at hl 4 rfl) ?_
        obtain ⟨q_3, hq_3, hrun⟩ := bd_some hrun
        refine cI_callV (As := [.int x3, .int x4]) (rest := []) (wr := []) (wN := (wX7 kI kJ to ta z nst his len txt thr god prm npr cov siz pts rea pla bef has)) (ci := 6) (q0 := 0) hE (c_X7_truth l D kI kJ kS to ta x3 x4 z nst his len txt thr god prm npr cov siz pts rea pla bef has hq_3) (cwV 2 hts gX7_share_X7_truth rfl rfl rfl (by decide +kernel) ⟨Nat.le_of_ble_eq_true rfl, Nat.le_of_ble_eq_true rfl⟩) hP hD hS [0, 1, 2, 3, 4, 5, 6, 7, 8, 9] [] [0, 1, 2, 3, 4, 5, 6, 7, 8, 9] rfl rfl rfl rfl (by decide) rfl rfl rfl rfl rfl hl.1 rfl (Nat.le_of_ble_eq_true rfl) dX7_share_27 ⟨Nat.le_of_ble_eq_true rfl, Nat.le_of_ble_eq_true rfl⟩ (fun H locs hP hD hS => ?_)
        refine lv_iconst (v := 2) hx hb dX7_share_30 (by decide) ?_
        refine lv_icmp_ge (tgt := 38) hx hb dX7_share_31 (by decide) (fun hc => ?_) (fun hc => ?_)
        · have hrun := it_t hc hrun
          refine lv_iconst (v := 0) hx hb dX7_share_38 (by decide) ?_
          exact c_J39 x1 x2 x3 x4 0 (fX7_share_L14 x3 z k6 n) ih  hrun _ _ _ hP hD hS (lv_sub hl [0, 1, 2, 3, 4] rfl)
        · have hrun := it_f hc hrun
          refine lv_iconst (v := 1) hx hb dX7_share_34 (by decide) ?_
          refine lv_goto (tgt := 39) hx hb dX7_share_35 (by decide) ?_
          exact c_J39 x1 x2 x3 x4 1 (fX7_share_L14 x3 z k6 n) ih  hrun _ _ _ hP hD hS (lv_sub hl [0, 1, 2, 3, 4] rfl)
  have c_J90 : ∀ (x1 : Int32) (x2 : Int32), fX7_share_J90 x1 x2 = some r → wAt p l e (rmk 2 0 0 47) s m av below meth c D A 6 0 0 Q 90 [] [(1, .int x1), (2, .int x2)] (wX7 kI kJ to ta z nst his len txt thr god prm npr cov siz pts rea pla bef has) := by
    intro x1 x2 hrun H locs ls hP hD hS hl
    unfold fX7_share_J90 at hrun
    refine lv_iload_n hx hb dX7_share_90 rfl (lv_at hl 0 rfl) ?_
    refine lv_if_ne (tgt := 98) hx hb dX7_share_91 (by decide) (fun hc => ?_) (fun hc => ?_)
    · have hrun := it_f hc hrun
      refine lv_iload_n hx hb dX7_share_98 rfl (lv_at hl 1 rfl) ?_
      refine lv_i2d hx hb dX7_share_99 ?_
      refine lv_iload_n hx hb dX7_share_100 rfl (lv_at hl 0 rfl) ?_
      refine lv_i2d hx hb dX7_share_101 ?_
      obtain ⟨hnn, hrun⟩ := gn_some hrun
      refine lv_ddiv hx hb dX7_share_102 hnn ?_
      obtain rfl := Option.some.inj hrun
      exact hret _ _ _ _ dX7_share_103 hP hD hS
    · have hrun := it_t hc hrun
      refine lv_dconst1 hx hb dX7_share_94 ?_
      refine lv_goto (tgt := 103) hx hb dX7_share_95 (by decide) ?_
      obtain rfl := Option.some.inj hrun
      exact hret _ _ _ _ dX7_share_103 hP hD hS
  have c_L6 : ∀  (n : Nat) (x1 : Int32) (x2 : Int32) (x3 : Int32), fX7_share_L6 z n x1 x2 x3 = some r → wAt p l e (rmk 2 0 0 47) s m av below meth c D A 6 0 0 Q 6 [] [(0, .ref to), (1, .int x1), (2, .int x2), (3, .int x3)] (wX7 kI kJ to ta z nst his len txt thr god prm npr cov siz pts rea pla bef has) := by
    intro  n
    induction n with
    | zero =>
      intro x1 x2 x3 hrun
      rw [fX7_share_L6] at hrun
      cases hrun
    | succ n ih =>
      intro x1 x2 x3 hrun H locs ls hP hD hS hl
      rw [fX7_share_L6] at hrun
      refine lv_iload_n hx hb dX7_share_6 rfl (lv_at hl 3 rfl) ?_
      refine lv_iconst (v := 4) hx hb dX7_share_7 (by decide) ?_
      refine lv_icmp_ge (tgt := 90) hx hb dX7_share_8 (by decide) (fun hc => ?_) (fun hc => ?_)
      · have hrun := it_t hc hrun
        exact c_J90 x1 x2  hrun _ _ _ hP hD hS (lv_sub hl [1, 2] rfl)
      · have hrun := it_f hc hrun
        refine lv_iconst (v := 0) hx hb dX7_share_11 (by decide) ?_
        refine lv_istore (lv' := [(4, .int 0), (0, .ref to), (1, .int x1), (2, .int x2), (3, .int x3)]) hx hb dX7_share_12 hl (by decide) rfl (fun ls hl => ?_)
        exact c_L14 x3 (fX7_share_L6 z n) ih 5000 x1 x2 0  hrun _ _ _ hP hD hS (lv_sub hl [1, 2, 3, 4, 0] rfl)
  unfold fX7_share at hrun
  refine lv_iconst (v := 0) hx hb dX7_share_0 (by decide) ?_
  refine lv_istore_n (lv' := [(1, .int 0), (0, .ref to)]) hx hb dX7_share_1 rfl hl (by decide) rfl (fun ls hl => ?_)
  refine lv_iconst (v := 0) hx hb dX7_share_2 (by decide) ?_
  refine lv_istore_n (lv' := [(2, .int 0), (1, .int 0), (0, .ref to)]) hx hb dX7_share_3 rfl hl (by decide) rfl (fun ls hl => ?_)
  refine lv_iconst (v := 0) hx hb dX7_share_4 (by decide) ?_
  refine lv_istore_n (lv' := [(3, .int 0), (2, .int 0), (1, .int 0), (0, .ref to)]) hx hb dX7_share_5 rfl hl (by decide) rfl (fun ls hl => ?_)
  exact c_L6  5000 0 0 0  hrun _ _ _ hP hD hS (lv_sub hl [3, 2, 1, 0] rfl)
