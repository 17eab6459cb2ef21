/-! ===== X7_decidedShare ===== -/
theorem mX7_decidedShare_1 : Cond.fieldLink RX7 38 "GateMazeModel" "thrown" "I" ∈ wsX7_decidedShare := List.mem_of_getElem? (i := 1) rfl
theorem iX7_decidedShare_X7 : ∀ w ∈ u_ws RX7 TX7 16, w ∈ wsX7_decidedShare := fun w h => List.mem_cons_of_mem _ (List.mem_append_right _ h)
set_option maxHeartbeats 4000000 in
set_option maxRecDepth 100000 in
theorem c_X7_decidedShare (l : Launch) (D : va_G) (kI kJ kS : ClassId) (to : Nat) (ta : Nat → Nat) (z : (Nat → Int32)) (nst : Int32) (his : (Nat → Int32)) (len : Int32) (txt : (Nat → Int32)) (thr : Int32) (god : (Nat → Int64)) (prm : (Nat → Int32)) (npr : Int32) (cov : (Nat → Int32)) (siz : (Nat → Int32)) (pts : (Nat → Int32)) (rea : Int32) (pla : Int32) (bef : (Nat → Int32)) (has : Int64) {r : UInt64 × Int32} (hrun : fX7_decidedShare z = some r) : cD l D (tyL kI kJ kS) false yX7_decidedShare wsX7_decidedShare (rmk 3 0 0 72) [.ref to] (wX7 kI kJ to ta z nst his len txt thr god prm npr cov siz pts rea pla bef has) (wX7 kI kJ to ta z nst his len txt r.2 god prm npr cov siz pts rea pla bef has) r.1 := by
  refine cD_of (cc := cX7_decidedShare) (maxL := 1) (by decide) rfl (Nat.le_of_ble_eq_true rfl) ?_
  intro p e s m av below meth c A Q ls hE hP hD hS hl hret
  have hE : ent_ p s m av meth c RX7 cX7_decidedShare 1 (some .double) wsX7_decidedShare (tyL kI kJ kS) D A false := hE
  obtain ⟨hx, hb, hml, hown, hts, hr, hlocks, hK, hA, hst⟩ := id hE
  have hl : lv_has ls 1 [(0, .ref to)] := hl
  unfold fX7_decidedShare at hrun
  refine lv_aload_n hx hb dX7_decidedShare_0 rfl (lv_at hl 0 rfl) ?_
  refine lv_iconst (v := 0) hx hb dX7_decidedShare_1 (by decide) ?_
  refine va_put (D := D) (ci := 6) (v := .int 0) (ty := .int) (C := RX7) (T := TX7) (N := 16) hx hb hts iX7_decidedShare_X7 tyX7 tyX7_ok nmX7 hown hK hP hD hS 0 rfl rfl 5 (by decide) (hts _ mX7_decidedShare_1) (fun _ h9 => h9) rfl (by decide +kernel) rfl rfl (Nat.le_of_ble_eq_true rfl) dX7_decidedShare_2 (fun H locs hP hD hS => ?_)
  have hP : va_P D vwCl (wX7 kI kJ to ta z nst his len txt 0 god prm npr cov siz pts rea pla bef has) H := hP
  have hD : va_D A (wX7 kI kJ to ta z nst his len txt 0 god prm npr cov siz pts rea pla bef has) := hD
  refine lv_aload_n hx hb dX7_decidedShare_5 rfl (lv_at hl 0 rfl) ?_
  obtain ⟨q_1, hq_1, hrun⟩ := bd_some hrun
  refine cD_callV (As := []) (rest := []) (wr := []) (wN := (wX7 kI kJ to ta z nst his len txt 0 god prm npr cov siz pts rea pla bef has)) (ci := 6) (q0 := 0) hE (c_X7_share l D kI kJ kS to ta  z nst his len txt 0 god prm npr cov siz pts rea pla bef has hq_1) (cwV 0 hts gX7_decidedShare_X7_share rfl rfl rfl (by decide +kernel) ⟨Nat.le_of_ble_eq_true rfl, Nat.le_of_ble_eq_true rfl⟩) hP hD hS [0, 1, 2, 3, 4, 5, 6, 7, 8, 9] [] [0, 1, 2, 3, 4, 5, 6, 7, 8, 9] rfl rfl rfl rfl (by decide) rfl rfl rfl rfl rfl hl.1 rfl (Nat.le_of_ble_eq_true rfl) dX7_decidedShare_6 ⟨Nat.le_of_ble_eq_true rfl, Nat.le_of_ble_eq_true rfl⟩ (fun H locs hP hD hS => ?_)
  obtain rfl := Option.some.inj hrun
  exact hret _ _ _ _ dX7_decidedShare_9 hP hD hS
/-! ===== X7_mix ===== -/
theorem mX7_mix_1 : Cond.constantLong RX7 203 (31) ∈ wsX7_mix := List.mem_of_getElem? (i := 1) rfl
theorem mX7_mix_2 : Cond.fieldLink RX7 205 "GateMazeModel" "hash" "J" ∈ wsX7_mix := List.mem_of_getElem? (i := 2) rfl
theorem iX7_mix_X7 : ∀ w ∈ u_ws RX7 TX7 16, w ∈ wsX7_mix := fun w h => List.mem_cons_of_mem _ (List.mem_append_right _ h)
set_option maxHeartbeats 4000000 in
set_option maxRecDepth 100000 in
theorem c_X7_mix (l : Launch) (D : va_G) (kI kJ kS : ClassId) (to : Nat) (ta : Nat → Nat) (x1 : Int64) (z : (Nat → Int32)) (nst : Int32) (his : (Nat → Int32)) (len : Int32) (txt : (Nat → Int32)) (thr : Int32) (god : (Nat → Int64)) (prm : (Nat → Int32)) (npr : Int32) (cov : (Nat → Int32)) (siz : (Nat → Int32)) (pts : (Nat → Int32)) (rea : Int32) (pla : Int32) (bef : (Nat → Int32)) (has : Int64) {r : Int64} (hrun : fX7_mix has x1 = some r) : cV l D (tyL kI kJ kS) false yX7_mix wsX7_mix (rmk 0 0 0 0) [.ref to, .long x1] (wX7 kI kJ to ta z nst his len txt thr god prm npr cov siz pts rea pla bef has) (wX7 kI kJ to ta z nst his len txt thr god prm npr cov siz pts rea pla bef r) := by
  refine cV_of (cc := cX7_mix) (maxL := 3) (by decide) rfl (Nat.le_of_ble_eq_true rfl) ?_
  intro p e s m av below meth c A Q ls hE hP hD hS hl hret
  have hE : ent_ p s m av meth c RX7 cX7_mix 3 none wsX7_mix (tyL kI kJ kS) D A false := hE
  obtain ⟨hx, hb, hml, hown, hts, hr, hlocks, hK, hA, hst⟩ := id hE
  have hl : lv_has ls 3 [(0, .ref to), (1, .long x1)] := hl
  unfold fX7_mix at hrun
  refine lv_aload_n hx hb dX7_mix_0 rfl (lv_at hl 0 rfl) ?_
  refine lv_ldc2 (v := 31) hx hb hown (hts _ mX7_mix_1) dX7_mix_1 ?_
  refine lv_aload_n hx hb dX7_mix_4 rfl (lv_at hl 0 rfl) ?_
  refine va_get (D := D) (ci := 6) (v := .long has) (C := RX7) (T := TX7) (N := 16) hx hb hts iX7_mix_X7 hown hK hP 0 rfl rfl 15 (by decide) (hts _ mX7_mix_2) (fun _ h9 => h9) rfl dX7_mix_5 ?_
  refine lv_lmul hx hb dX7_mix_8 ?_
  refine lv_lload_n hx hb dX7_mix_9 rfl (lv_at hl 1 rfl) ?_
  refine lv_ladd hx hb dX7_mix_10 ?_
  refine va_put (D := D) (ci := 6) (v := .long ((31 * has) + x1)) (ty := .long) (C := RX7) (T := TX7) (N := 16) hx hb hts iX7_mix_X7 tyX7 tyX7_ok nmX7 hown hK hP hD hS 0 rfl rfl 15 (by decide) (hts _ mX7_mix_2) (fun _ h9 => h9) rfl (by decide +kernel) rfl rfl (Nat.le_of_ble_eq_true rfl) dX7_mix_11 (fun H locs hP hD hS => ?_)
  have hP : va_P D vwCl (wX7 kI kJ to ta z nst his len txt thr god prm npr cov siz pts rea pla bef ((31 * has) + x1)) H := hP
  have hD : va_D A (wX7 kI kJ to ta z nst his len txt thr god prm npr cov siz pts rea pla bef ((31 * has) + x1)) := hD
  obtain rfl := Option.some.inj hrun
  exact hret _ _ _ _ dX7_mix_14 hP hD hS
/-! ===== X7_mixOutput ===== -/
theorem mX7_mixOutput_1 : Cond.fieldLink RX7 29 "GateMazeModel" "sizes" "[I" ∈ wsX7_mixOutput := List.mem_of_getElem? (i := 1) rfl
theorem iX7_mixOutput_X7 : ∀ w ∈ u_ws RX7 TX7 16, w ∈ wsX7_mixOutput := fun w h => List.mem_cons_of_mem _ (List.mem_append_right _ h)
set_option maxHeartbeats 4000000 in
set_option maxRecDepth 100000 in
theorem c_X7_mixOutput (l : Launch) (D : va_G) (kI kJ kS : ClassId) (to : Nat) (ta : Nat → Nat) (x1 : Int32) (z : (Nat → Int32)) (nst : Int32) (his : (Nat → Int32)) (len : Int32) (txt : (Nat → Int32)) (thr : Int32) (god : (Nat → Int64)) (prm : (Nat → Int32)) (npr : Int32) (cov : (Nat → Int32)) (siz : (Nat → Int32)) (pts : (Nat → Int32)) (rea : Int32) (pla : Int32) (bef : (Nat → Int32)) (has : Int64) {r : (Nat → Int64) × (Nat → Int32) × Int32 × Int64} (hrun : fX7_mixOutput z god prm npr cov siz has x1 = some r) : cV l D (tyL kI kJ kS) false yX7_mixOutput wsX7_mixOutput (rmk 5 0 0 117) [.ref to, .int x1] (wX7 kI kJ to ta z nst his len txt thr god prm npr cov siz pts rea pla bef has) (wX7 kI kJ to ta z nst his len txt thr r.1 r.2.1 r.2.2.1 cov siz pts rea pla bef r.2.2.2) := by
  refine cV_of (cc := cX7_mixOutput) (maxL := 3) (by decide) rfl (Nat.le_of_ble_eq_true rfl) ?_
  intro p e s m av below meth c A Q ls hE hP hD hS hl hret
  have hE : ent_ p s m av meth c RX7 cX7_mixOutput 3 none wsX7_mixOutput (tyL kI kJ kS) D A false := hE
  obtain ⟨hx, hb, hml, hown, hts, hr, hlocks, hK, hA, hst⟩ := id hE
  have hl : lv_has ls 3 [(0, .ref to), (1, .int x1)] := hl
  have c_J95 : ∀ (x1 : Int32) (god : (Nat → Int64)) (prm : (Nat → Int32)) (npr : Int32) (has : Int64), fX7_mixOutput_J95 x1 z god prm npr cov siz has = some r → wAt p l e (rmk 5 0 0 117) s m av below meth c D A 3 0 0 Q 95 [] [(0, .ref to), (1, .int x1)] (wX7 kI kJ to ta z nst his len txt thr god prm npr cov siz pts rea pla bef has) := by
    intro x1 god prm npr has hrun H locs ls hP hD hS hl
    unfold fX7_mixOutput_J95 at hrun
    refine lv_aload_n hx hb dX7_mixOutput_95 rfl (lv_at hl 0 rfl) ?_
    refine lv_aload_n hx hb dX7_mixOutput_96 rfl (lv_at hl 0 rfl) ?_
    refine lv_iload_n hx hb dX7_mixOutput_97 rfl (lv_at hl 1 rfl) ?_
    obtain ⟨q_1, hq_1, hrun⟩ := bd_some hrun
    refine cI_callV (As := [.int x1]) (rest := [.ref to]) (wr := []) (wN := (wX7 kI kJ to ta z nst his len txt thr god prm npr cov siz pts rea pla bef has)) (ci := 6) (q0 := 0) hE (c_X7_needsNow l D kI kJ kS to ta x1 z nst his len txt thr god prm npr cov siz pts rea pla bef has hq_1) (cwV 1 hts gX7_mixOutput_X7_needsNow rfl rfl rfl (by decide +kernel) ⟨Nat.le_of_ble_eq_true rfl, Nat.le_of_ble_eq_true rfl⟩) hP hD hS [0, 1, 2, 3, 4, 5, 6, 7, 8, 9] [] [0, 1, 2, 3, 4, 5, 6, 7, 8, 9] rfl rfl rfl rfl (by decide) rfl rfl rfl rfl rfl hl.1 rfl (Nat.le_of_ble_eq_true rfl) dX7_mixOutput_98 ⟨Nat.le_of_ble_eq_true rfl, Nat.le_of_ble_eq_true rfl⟩ (fun H locs hP hD hS => ?_)
    refine lv_i2l hx hb dX7_mixOutput_101 rfl ?_
    obtain ⟨q_2, hq_2, hrun⟩ := bd_some hrun
    refine cV_callV (As := [.long q_1.toInt64]) (rest := []) (wr := []) (wN := (wX7 kI kJ to ta z nst his len txt thr god prm npr cov siz pts rea pla bef q_2)) (ci := 6) (q0 := 0) hE (c_X7_mix l D kI kJ kS to ta q_1.toInt64 z nst his len txt thr god prm npr cov siz pts rea pla bef has hq_2) (cwV 1 hts gX7_mixOutput_X7_mix rfl rfl rfl (by decide +kernel) ⟨Nat.le_of_ble_eq_true rfl, Nat.le_of_ble_eq_true rfl⟩) hP hD hS [0, 1, 2, 3, 4, 5, 6, 7, 8, 9] [] [0, 1, 2, 3, 4, 5, 6, 7, 8, 9] rfl rfl rfl rfl (by decide) rfl rfl rfl rfl rfl hl.1 rfl (Nat.le_of_ble_eq_true rfl) dX7_mixOutput_102 ⟨Nat.le_of_ble_eq_true rfl, Nat.le_of_ble_eq_true rfl⟩ (fun H locs hP hD hS => ?_)
    refine lv_aload_n hx hb dX7_mixOutput_105 rfl (lv_at hl 0 rfl) ?_
    refine lv_aload_n hx hb dX7_mixOutput_106 rfl (lv_at hl 0 rfl) ?_
    refine lv_iload_n hx hb dX7_mixOutput_107 rfl (lv_at hl 1 rfl) ?_
    refine lv_iconst (v := 0) hx hb dX7_mixOutput_108 (by decide) ?_
    obtain ⟨q_3, hq_3, hrun⟩ := bd_some hrun
    refine cI_callV (As := [.int x1, .int 0]) (rest := [.ref to]) (wr := []) (wN := (wX7 kI kJ to ta z nst his len txt thr god prm npr cov siz pts rea pla bef q_2)) (ci := 6) (q0 := 0) hE (c_X7_alikeNow l D kI kJ kS to ta x1 0 z nst his len txt thr god prm npr cov siz pts rea pla bef q_2 hq_3) (cwV 2 hts gX7_mixOutput_X7_alikeNow rfl rfl rfl (by decide +kernel) ⟨Nat.le_of_ble_eq_true rfl, Nat.le_of_ble_eq_true rfl⟩) hP hD hS [0, 1, 2, 3, 4, 5, 6, 7, 8, 9] [] [0, 1, 2, 3, 4, 5, 6, 7, 8, 9] rfl rfl rfl rfl (by decide) rfl rfl rfl rfl rfl hl.1 rfl (Nat.le_of_ble_eq_true rfl) dX7_mixOutput_109 ⟨Nat.le_of_ble_eq_true rfl, Nat.le_of_ble_eq_true rfl⟩ (fun H locs hP hD hS => ?_)
    refine lv_i2l hx hb dX7_mixOutput_112 rfl ?_
    obtain ⟨q_4, hq_4, hrun⟩ := bd_some hrun
    refine cV_callV (As := [.long q_3.toInt64]) (rest := []) (wr := []) (wN := (wX7 kI kJ to ta z nst his len txt thr god prm npr cov siz pts rea pla bef q_4)) (ci := 6) (q0 := 0) hE (c_X7_mix l D kI kJ kS to ta q_3.toInt64 z nst his len txt thr god prm npr cov siz pts rea pla bef q_2 hq_4) (cwV 1 hts gX7_mixOutput_X7_mix rfl rfl rfl (by decide +kernel) ⟨Nat.le_of_ble_eq_true rfl, Nat.le_of_ble_eq_true rfl⟩) hP hD hS [0, 1, 2, 3, 4, 5, 6, 7, 8, 9] [] [0, 1, 2, 3, 4, 5, 6, 7, 8, 9] rfl rfl rfl rfl (by decide) rfl rfl rfl rfl rfl hl.1 rfl (Nat.le_of_ble_eq_true rfl) dX7_mixOutput_113 ⟨Nat.le_of_ble_eq_true rfl, Nat.le_of_ble_eq_true rfl⟩ (fun H locs hP hD hS => ?_)
    refine lv_aload_n hx hb dX7_mixOutput_116 rfl (lv_at hl 0 rfl) ?_
    refine lv_aload_n hx hb dX7_mixOutput_117 rfl (lv_at hl 0 rfl) ?_
    refine lv_iload_n hx hb dX7_mixOutput_118 rfl (lv_at hl 1 rfl) ?_
    refine lv_iconst (v := 0) hx hb dX7_mixOutput_119 (by decide) ?_
    obtain ⟨q_5, hq_5, hrun⟩ := bd_some hrun
    refine cI_callV (As := [.int x1, .int 0]) (rest := [.ref to]) (wr := []) (wN := (wX7 kI kJ to ta z nst his len txt thr god prm npr cov siz pts rea pla bef q_4)) (ci := 6) (q0 := 0) hE (c_X7_nearestNow l D kI kJ kS to ta x1 0 z nst his len txt thr god prm npr cov siz pts rea pla bef q_4 hq_5) (cwV 2 hts gX7_mixOutput_X7_nearestNow rfl rfl rfl (by decide +kernel) ⟨Nat.le_of_ble_eq_true rfl, Nat.le_of_ble_eq_true rfl⟩) hP hD hS [0, 1, 2, 3, 4, 5, 6, 7, 8, 9] [] [0, 1, 2, 3, 4, 5, 6, 7, 8, 9] rfl rfl rfl rfl (by decide) rfl rfl rfl rfl rfl hl.1 rfl (Nat.le_of_ble_eq_true rfl) dX7_mixOutput_120 ⟨Nat.le_of_ble_eq_true rfl, Nat.le_of_ble_eq_true rfl⟩ (fun H locs hP hD hS => ?_)
    refine lv_i2l hx hb dX7_mixOutput_123 rfl ?_
    obtain ⟨q_6, hq_6, hrun⟩ := bd_some hrun
    refine cV_callV (As := [.long q_5.toInt64]) (rest := []) (wr := []) (wN := (wX7 kI kJ to ta z nst his len txt thr god prm npr cov siz pts rea pla bef q_6)) (ci := 6) (q0 := 0) hE (c_X7_mix l D kI kJ kS to ta q_5.toInt64 z nst his len txt thr god prm npr cov siz pts rea pla bef q_4 hq_6) (cwV 1 hts gX7_mixOutput_X7_mix rfl rfl rfl (by decide +kernel) ⟨Nat.le_of_ble_eq_true rfl, Nat.le_of_ble_eq_true rfl⟩) hP hD hS [0, 1, 2, 3, 4, 5, 6, 7, 8, 9] [] [0, 1, 2, 3, 4, 5, 6, 7, 8, 9] rfl rfl rfl rfl (by decide) rfl rfl rfl rfl rfl hl.1 rfl (Nat.le_of_ble_eq_true rfl) dX7_mixOutput_124 ⟨Nat.le_of_ble_eq_true rfl, Nat.le_of_ble_eq_true rfl⟩ (fun H locs hP hD hS => ?_)
    obtain rfl := Option.some.inj hrun
    exact hret _ _ _ _ dX7_mixOutput_127 hP hD hS
  have c_L61 : ∀ (x1 : Int32) (god : (Nat → Int64)) (prm : (Nat → Int32)) (npr : Int32) (n : Nat) (x2 : Int32) (has : Int64), fX7_mixOutput_L61 x1 z god prm npr cov siz n x2 has = some r → wAt p l e (rmk 5 0 0 117) s m av below meth c D A 3 0 0 Q 61 [] [(0, .ref to), (1, .int x1), (2, .int x2)] (wX7 kI kJ to ta z nst his len txt thr god prm npr cov siz pts rea pla bef has) := by
    intro x1 god prm npr n
    induction n with
    | zero =>
      intro x2 has hrun
      rw [fX7_mixOutput_L61] at hrun
      cases hrun
    | succ n ih =>
      intro x2 has hrun H locs ls hP hD hS hl
      rw [fX7_mixOutput_L61] at hrun
      refine lv_iload_n hx hb dX7_mixOutput_61 rfl (lv_at hl 2 rfl) ?_
      refine lv_iconst (v := 4) hx hb dX7_mixOutput_62 (by decide) ?_
      refine lv_aload_n hx hb dX7_mixOutput_63 rfl (lv_at hl 0 rfl) ?_
      refine va_get (D := D) (ci := 6) (v := .ref (ta 6)) (C := RX7) (T := TX7) (N := 16) hx hb hts iX7_mixOutput_X7 hown hK hP 0 rfl rfl 10 (by decide) (hts _ mX7_mixOutput_1) (fun _ h9 => h9) rfl dX7_mixOutput_64 ?_
      refine lv_iload_n hx hb dX7_mixOutput_67 rfl (lv_at hl 1 rfl) ?_
      obtain ⟨hin, hrun⟩ := gd_some hrun
      refine va_iald hx hb hK hP 7 0 rfl rfl hin dX7_mixOutput_68 ?_
      refine lv_imul hx hb dX7_mixOutput_69 ?_
      refine lv_icmp_ge (tgt := 95) hx hb dX7_mixOutput_70 (by decide) (fun hc => ?_) (fun hc => ?_)
      · have hrun := it_t hc hrun
        exact c_J95 x1 god prm npr has  hrun _ _ _ hP hD hS (lv_sub hl [0, 1] rfl)
      · have hrun := it_f hc hrun
        refine lv_aload_n hx hb dX7_mixOutput_73 rfl (lv_at hl 0 rfl) ?_
        refine lv_aload_n hx hb dX7_mixOutput_74 rfl (lv_at hl 0 rfl) ?_
        refine lv_iload_n hx hb dX7_mixOutput_75 rfl (lv_at hl 1 rfl) ?_
        refine lv_iload_n hx hb dX7_mixOutput_76 rfl (lv_at hl 2 rfl) ?_
        refine lv_iconst (v := 4) hx hb dX7_mixOutput_77 (by decide) ?_
        refine lv_idiv hx hb dX7_mixOutput_78 (by decide) ?_
        refine lv_iload_n hx hb dX7_mixOutput_79 rfl (lv_at hl 2 rfl) ?_
        refine lv_iconst (v := 4) hx hb dX7_mixOutput_80 (by decide) ?_
        refine lv_irem hx hb dX7_mixOutput_81 (by decide) ?_
        obtain ⟨q_7, hq_7, hrun⟩ := bd_some hrun
        refine cI_callV (As := [.int x1, .int (x2 / 4), .int (x2 - x2 / 4 * 4)]) (rest := [.ref to]) (wr := []) (wN := (wX7 kI kJ to ta z nst his len txt thr god prm npr cov siz pts rea pla bef has)) (ci := 6) (q0 := 0) hE (c_X7_productNow l D kI kJ kS to ta x1 (x2 / 4) (x2 - x2 / 4 * 4) z nst his len txt thr god prm npr cov siz pts rea pla bef has hq_7) (cwV 3 hts gX7_mixOutput_X7_productNow rfl rfl rfl (by decide +kernel) ⟨Nat.le_of_ble_eq_true rfl, Nat.le_of_ble_eq_true rfl⟩) hP hD hS [0, 1, 2, 3, 4, 5, 6, 7, 8, 9] [] [0, 1, 2, 3, 4, 5, 6, 7, 8, 9] rfl rfl rfl rfl (by decide) rfl rfl rfl rfl rfl hl.1 rfl (Nat.le_of_ble_eq_true rfl) dX7_mixOutput_82 ⟨Nat.le_of_ble_eq_true rfl, Nat.le_of_ble_eq_true rfl⟩ (fun H locs hP hD hS => ?_)
        refine lv_i2l hx hb dX7_mixOutput_85 rfl ?_
        obtain ⟨q_8, hq_8, hrun⟩ := bd_some hrun
        refine cV_callV (As := [.long q_7.toInt64]) (rest := []) (wr := []) (wN := (wX7 kI kJ to ta z nst his len txt thr god prm npr cov siz pts rea pla bef q_8)) (ci := 6) (q0 := 0) hE (c_X7_mix l D kI kJ kS to ta q_7.toInt64 z nst his len txt thr god prm npr cov siz pts rea pla bef has hq_8) (cwV 1 hts gX7_mixOutput_X7_mix rfl rfl rfl (by decide +kernel) ⟨Nat.le_of_ble_eq_true rfl, Nat.le_of_ble_eq_true rfl⟩) hP hD hS [0, 1, 2, 3, 4, 5, 6, 7, 8, 9] [] [0, 1, 2, 3, 4, 5, 6, 7, 8, 9] rfl rfl rfl rfl (by decide) rfl rfl rfl rfl rfl hl.1 rfl (Nat.le_of_ble_eq_true rfl) dX7_mixOutput_86 ⟨Nat.le_of_ble_eq_true rfl, Nat.le_of_ble_eq_true rfl⟩ (fun H locs hP hD hS => ?_)
        refine lv_iinc (v := x2 + 1) (lv' := [(2, .int (x2 + 1)), (0, .ref to), (1, .int x1)]) hx hb dX7_mixOutput_89 hl (k := 2) rfl rfl (by decide) rfl (fun ls hl => ?_)
        refine lv_goto (tgt := 61) hx hb dX7_mixOutput_92 (by decide) ?_
        exact ih (x2 + 1) q_8  hrun _ _ _ hP hD hS (lv_sub hl [1, 2, 0] rfl)
  have c_J59 : ∀ (x1 : Int32) (god : (Nat → Int64)) (prm : (Nat → Int32)) (npr : Int32) (has : Int64), fX7_mixOutput_J59 x1 z god prm npr cov siz has = some r → wAt p l e (rmk 5 0 0 117) s m av below meth c D A 3 0 0 Q 59 [] [(0, .ref to), (1, .int x1)] (wX7 kI kJ to ta z nst his len txt thr god prm npr cov siz pts rea pla bef has) := by
    intro x1 god prm npr has hrun H locs ls hP hD hS hl
    unfold fX7_mixOutput_J59 at hrun
    refine lv_iconst (v := 0) hx hb dX7_mixOutput_59 (by decide) ?_
    refine lv_istore_n (lv' := [(2, .int 0), (0, .ref to), (1, .int x1)]) hx hb dX7_mixOutput_60 rfl hl (by decide) rfl (fun ls hl => ?_)
    exact c_L61 x1 god prm npr 5000 0 has  hrun _ _ _ hP hD hS (lv_sub hl [1, 2, 0] rfl)
  have c_L36 : ∀ (x1 : Int32) (n : Nat) (x2 : Int32) (god : (Nat → Int64)) (prm : (Nat → Int32)) (npr : Int32) (has : Int64), fX7_mixOutput_L36 x1 z cov siz n x2 god prm npr has = some r → wAt p l e (rmk 5 0 0 117) s m av below meth c D A 3 0 0 Q 36 [] [(0, .ref to), (1, .int x1), (2, .int x2)] (wX7 kI kJ to ta z nst his len txt thr god prm npr cov siz pts rea pla bef has) := by
    intro x1 n
    induction n with
    | zero =>
      intro x2 god prm npr has hrun
      rw [fX7_mixOutput_L36] at hrun
      cases hrun
    | succ n ih =>
      intro x2 god prm npr has hrun H locs ls hP hD hS hl
      rw [fX7_mixOutput_L36] at hrun
      refine lv_iload_n hx hb dX7_mixOutput_36 rfl (lv_at hl 2 rfl) ?_
      refine lv_bipush (v := 11) hx hb dX7_mixOutput_37 (by decide) ?_
      refine lv_icmp_ge (tgt := 59) hx hb dX7_mixOutput_39 (by decide) (fun hc => ?_) (fun hc => ?_)
      · have hrun := it_t hc hrun
        exact c_J59 x1 god prm npr has  hrun _ _ _ hP hD hS (lv_sub hl [0, 1] rfl)
      · have hrun := it_f hc hrun
        refine lv_aload_n hx hb dX7_mixOutput_42 rfl (lv_at hl 0 rfl) ?_
        refine lv_aload_n hx hb dX7_mixOutput_43 rfl (lv_at hl 0 rfl) ?_
        refine lv_iload_n hx hb dX7_mixOutput_44 rfl (lv_at hl 1 rfl) ?_
        refine lv_iload_n hx hb dX7_mixOutput_45 rfl (lv_at hl 2 rfl) ?_
        obtain ⟨q_9, hq_9, hrun⟩ := bd_some hrun
        refine cI_callV (As := [.int x1, .int x2]) (rest := [.ref to]) (wr := []) (wN := (wX7 kI kJ to ta z nst his len txt thr q_9.2.1 q_9.2.2.1 q_9.2.2.2 cov siz pts rea pla bef has)) (ci := 6) (q0 := 0) hE (c_X7_outputNow l D kI kJ kS to ta x1 x2 z nst his len txt thr god prm npr cov siz pts rea pla bef has hq_9) (cwV 2 hts gX7_mixOutput_X7_outputNow rfl rfl rfl (by decide +kernel) ⟨Nat.le_of_ble_eq_true rfl, Nat.le_of_ble_eq_true rfl⟩) hP hD hS [0, 1, 2, 3, 4, 5, 6, 7, 8, 9] [] [0, 1, 2, 3, 4, 5, 6, 7, 8, 9] rfl rfl rfl rfl (by decide) rfl rfl rfl rfl rfl hl.1 rfl (Nat.le_of_ble_eq_true rfl) dX7_mixOutput_46 ⟨Nat.le_of_ble_eq_true rfl, Nat.le_of_ble_eq_true rfl⟩ (fun H locs hP hD hS => ?_)
        refine lv_i2l hx hb dX7_mixOutput_49 rfl ?_
        obtain ⟨q_10, hq_10, hrun⟩ := bd_some hrun
        refine cV_callV (As := [.long q_9.1.toInt64]) (rest := []) (wr := []) (wN := (wX7 kI kJ to ta z nst his len txt thr q_9.2.1 q_9.2.2.1 q_9.2.2.2 cov siz pts rea pla bef q_10)) (ci := 6) (q0 := 0) hE (c_X7_mix l D kI kJ kS to ta q_9.1.toInt64 z nst his len txt thr q_9.2.1 q_9.2.2.1 q_9.2.2.2 cov siz pts rea pla bef has hq_10) (cwV 1 hts gX7_mixOutput_X7_mix rfl rfl rfl (by decide +kernel) ⟨Nat.le_of_ble_eq_true rfl, Nat.le_of_ble_eq_true rfl⟩) hP hD hS [0, 1, 2, 3, 4, 5, 6, 7, 8, 9] [] [0, 1, 2, 3, 4, 5, 6, 7, 8, 9] rfl rfl rfl rfl (by decide) rfl rfl rfl rfl rfl hl.1 rfl (Nat.le_of_ble_eq_true rfl) dX7_mixOutput_50 ⟨Nat.le_of_ble_eq_true rfl, Nat.le_of_ble_eq_true rfl⟩ (fun H locs hP hD hS => ?_)
        refine lv_iinc (v := x2 + 1) (lv' := [(2, .int (x2 + 1)), (0, .ref to), (1, .int x1)]) hx hb dX7_mixOutput_53 hl (k := 2) rfl rfl (by decide) rfl (fun ls hl => ?_)
        refine lv_goto (tgt := 36) hx hb dX7_mixOutput_56 (by decide) ?_
        exact ih (x2 + 1) q_9.2.1 q_9.2.2.1 q_9.2.2.2 q_10  hrun _ _ _ hP hD hS (lv_sub hl [1, 2, 0] rfl)
  have c_J34 : ∀ (x1 : Int32) (god : (Nat → Int64)) (prm : (Nat → Int32)) (npr : Int32) (has : Int64), fX7_mixOutput_J34 x1 z god prm npr cov siz has = some r → wAt p l e (rmk 5 0 0 117) s m av below meth c D A 3 0 0 Q 34 [] [(0, .ref to), (1, .int x1)] (wX7 kI kJ to ta z nst his len txt thr god prm npr cov siz pts rea pla bef has) := by
    intro x1 god prm npr has hrun H locs ls hP hD hS hl
    unfold fX7_mixOutput_J34 at hrun
    refine lv_iconst (v := 0) hx hb dX7_mixOutput_34 (by decide) ?_
    refine lv_istore_n (lv' := [(2, .int 0), (0, .ref to), (1, .int x1)]) hx hb dX7_mixOutput_35 rfl hl (by decide) rfl (fun ls hl => ?_)
    exact c_L36 x1 5000 0 god prm npr has  hrun _ _ _ hP hD hS (lv_sub hl [1, 2, 0] rfl)
  have c_L2 : ∀ (x1 : Int32) (god : (Nat → Int64)) (prm : (Nat → Int32)) (npr : Int32) (n : Nat) (x2 : Int32) (has : Int64), fX7_mixOutput_L2 x1 z god prm npr cov siz n x2 has = some r → wAt p l e (rmk 5 0 0 117) s m av below meth c D A 3 0 0 Q 2 [] [(0, .ref to), (1, .int x1), (2, .int x2)] (wX7 kI kJ to ta z nst his len txt thr god prm npr cov siz pts rea pla bef has) := by
    intro x1 god prm npr n
    induction n with
    | zero =>
      intro x2 has hrun
      rw [fX7_mixOutput_L2] at hrun
      cases hrun
    | succ n ih =>
      intro x2 has hrun H locs ls hP hD hS hl
      rw [fX7_mixOutput_L2] at hrun
      refine lv_iload_n hx hb dX7_mixOutput_2 rfl (lv_at hl 2 rfl) ?_
      refine lv_iconst (v := 3) hx hb dX7_mixOutput_3 (by decide) ?_
      refine lv_aload_n hx hb dX7_mixOutput_4 rfl (lv_at hl 0 rfl) ?_
      obtain ⟨q_11, hq_11, hrun⟩ := bd_some hrun
      refine cI_callV (As := []) (rest := [.int 3, .int x2]) (wr := []) (wN := (wX7 kI kJ to ta z nst his len txt thr god prm npr cov siz pts rea pla bef has)) (ci := 6) (q0 := 0) hE (c_X7_rows l D kI kJ kS to ta  z nst his len txt thr god prm npr cov siz pts rea pla bef has hq_11) (cwV 0 hts gX7_mixOutput_X7_rows rfl rfl rfl (by decide +kernel) ⟨Nat.le_of_ble_eq_true rfl, Nat.le_of_ble_eq_true rfl⟩) hP hD hS [0, 1, 2, 3, 4, 5, 6, 7, 8, 9] [] [0, 1, 2, 3, 4, 5, 6, 7, 8, 9] rfl rfl rfl rfl (by decide) rfl rfl rfl rfl rfl hl.1 rfl (Nat.le_of_ble_eq_true rfl) dX7_mixOutput_5 ⟨Nat.le_of_ble_eq_true rfl, Nat.le_of_ble_eq_true rfl⟩ (fun H locs hP hD hS => ?_)
      refine lv_imul hx hb dX7_mixOutput_8 ?_
      refine lv_icmp_ge (tgt := 34) hx hb dX7_mixOutput_9 (by decide) (fun hc => ?_) (fun hc => ?_)
      · have hrun := it_t hc hrun
        exact c_J34 x1 god prm npr has  hrun _ _ _ hP hD hS (lv_sub hl [0, 1] rfl)
      · have hrun := it_f hc hrun
        refine lv_aload_n hx hb dX7_mixOutput_12 rfl (lv_at hl 0 rfl) ?_
        refine lv_aload_n hx hb dX7_mixOutput_13 rfl (lv_at hl 0 rfl) ?_
        refine lv_iload_n hx hb dX7_mixOutput_14 rfl (lv_at hl 1 rfl) ?_
        refine lv_iload_n hx hb dX7_mixOutput_15 rfl (lv_at hl 2 rfl) ?_
        refine lv_iconst (v := 3) hx hb dX7_mixOutput_16 (by decide) ?_
        refine lv_idiv hx hb dX7_mixOutput_17 (by decide) ?_
        refine lv_iload_n hx hb dX7_mixOutput_18 rfl (lv_at hl 2 rfl) ?_
        refine lv_iconst (v := 3) hx hb dX7_mixOutput_19 (by decide) ?_
        refine lv_irem hx hb dX7_mixOutput_20 (by decide) ?_
        obtain ⟨q_12, hq_12, hrun⟩ := bd_some hrun
        refine cI_callV (As := [.int x1, .int (x2 / 3), .int (x2 - x2 / 3 * 3)]) (rest := [.ref to]) (wr := []) (wN := (wX7 kI kJ to ta z nst his len txt thr god prm npr cov siz pts rea pla bef has)) (ci := 6) (q0 := 0) hE (c_X7_atNow l D kI kJ kS to ta x1 (x2 / 3) (x2 - x2 / 3 * 3) z nst his len txt thr god prm npr cov siz pts rea pla bef has hq_12) (cwV 3 hts gX7_mixOutput_X7_atNow rfl rfl rfl (by decide +kernel) ⟨Nat.le_of_ble_eq_true rfl, Nat.le_of_ble_eq_true rfl⟩) hP hD hS [0, 1, 2, 3, 4, 5, 6, 7, 8, 9] [] [0, 1, 2, 3, 4, 5, 6, 7, 8, 9] rfl rfl rfl rfl (by decide) rfl rfl rfl rfl rfl hl.1 rfl (Nat.le_of_ble_eq_true rfl) dX7_mixOutput_21 ⟨Nat.le_of_ble_eq_true rfl, Nat.le_of_ble_eq_true rfl⟩ (fun H locs hP hD hS => ?_)
        refine lv_i2l hx hb dX7_mixOutput_24 rfl ?_
        obtain ⟨q_13, hq_13, hrun⟩ := bd_some hrun
        refine cV_callV (As := [.long q_12.toInt64]) (rest := []) (wr := []) (wN := (wX7 kI kJ to ta z nst his len txt thr god prm npr cov siz pts rea pla bef q_13)) (ci := 6) (q0 := 0) hE (c_X7_mix l D kI kJ kS to ta q_12.toInt64 z nst his len txt thr god prm npr cov siz pts rea pla bef has hq_13) (cwV 1 hts gX7_mixOutput_X7_mix rfl rfl rfl (by decide +kernel) ⟨Nat.le_of_ble_eq_true rfl, Nat.le_of_ble_eq_true rfl⟩) hP hD hS [0, 1, 2, 3, 4, 5, 6, 7, 8, 9] [] [0, 1, 2, 3, 4, 5, 6, 7, 8, 9] rfl rfl rfl rfl (by decide) rfl rfl rfl rfl rfl hl.1 rfl (Nat.le_of_ble_eq_true rfl) dX7_mixOutput_25 ⟨Nat.le_of_ble_eq_true rfl, Nat.le_of_ble_eq_true rfl⟩ (fun H locs hP hD hS => ?_)
        refine lv_iinc (v := x2 + 1) (lv' := [(2, .int (x2 + 1)), (0, .ref to), (1, .int x1)]) hx hb dX7_mixOutput_28 hl (k := 2) rfl rfl (by decide) rfl (fun ls hl => ?_)
        refine lv_goto (tgt := 2) hx hb dX7_mixOutput_31 (by decide) ?_
        exact ih (x2 + 1) q_13  hrun _ _ _ hP hD hS (lv_sub hl [1, 2, 0] rfl)
  unfold fX7_mixOutput at hrun
  refine lv_iconst (v := 0) hx hb dX7_mixOutput_0 (by decide) ?_
  refine lv_istore_n (lv' := [(2, .int 0), (0, .ref to), (1, .int x1)]) hx hb dX7_mixOutput_1 rfl hl (by decide) rfl (fun ls hl => ?_)
  exact c_L2 x1 god prm npr 5000 0 has  hrun _ _ _ hP hD hS (lv_sub hl [1, 2, 0] rfl)
/-! ===== Jxe99ae_isNaN_b9ae7 ===== -/
set_option maxHeartbeats 4000000 in
set_option maxRecDepth 100000 in
theorem c_Jxe99ae_isNaN_b9ae7 (l : Launch) (D : va_G) (kI kJ kS : ClassId) (x0 : UInt64) {r : Int32} (hrun : fJxe99ae_isNaN_b9ae7 x0 = some r) : cI l D (tyL kI kJ kS) false yJxe99ae_isNaN_b9ae7 wsJxe99ae_isNaN_b9ae7 (rmk 0 0 0 0) [.double x0] [] [] r := by
  refine cI_of (cc := cJxe99ae_isNaN_b9ae7) (maxL := 2) (by decide) rfl (Nat.le_of_ble_eq_true rfl) ?_
  intro p e s m av below meth c A Q ls hE hP hD hS hl hret
  have hE : ent_ p s m av meth c RJxe99ae cJxe99ae_isNaN_b9ae7 2 (some .boolean) wsJxe99ae_isNaN_b9ae7 (tyL kI kJ kS) D A false := hE
  obtain ⟨hx, hb, hml, hown, hts, hr, hlocks, hK, hA, hst⟩ := id hE
  have hl : lv_has ls 2 [(0, .double x0)] := hl
  unfold fJxe99ae_isNaN_b9ae7 at hrun
  refine lv_dload_n hx hb dJxe99ae_isNaN_b9ae7_0 rfl (lv_at hl 0 rfl) ?_
  refine lv_dload_n hx hb dJxe99ae_isNaN_b9ae7_1 rfl (lv_at hl 0 rfl) ?_
  refine lv_dcmp hx hb dJxe99ae_isNaN_b9ae7_2 ?_
  refine lv_if_eq (tgt := 10) hx hb dJxe99ae_isNaN_b9ae7_3 (by decide) (fun hc => ?_) (fun hc => ?_)
  · have hrun := it_t hc hrun
    refine lv_iconst (v := 0) hx hb dJxe99ae_isNaN_b9ae7_10 (by decide) ?_
    obtain rfl := Option.some.inj hrun
    exact hret _ _ _ _ (show narrow .boolean (.int 0) = .int 0 from rfl) dJxe99ae_isNaN_b9ae7_11 hP hD hS
  · have hrun := it_f hc hrun
    refine lv_iconst (v := 1) hx hb dJxe99ae_isNaN_b9ae7_6 (by decide) ?_
    refine lv_goto (tgt := 11) hx hb dJxe99ae_isNaN_b9ae7_7 (by decide) ?_
    obtain rfl := Option.some.inj hrun
    exact hret _ _ _ _ (show narrow .boolean (.int 1) = .int 1 from rfl) dJxe99ae_isNaN_b9ae7_11 hP hD hS
/-! ===== Jxe99ae_doubleToLongBits_ccdee ===== -/
theorem mJxe99ae_doubleToLongBits_ccdee_5 : Cond.constantLong RJxe99ae 137 (9221120237041090560) ∈ wsJxe99ae_doubleToLongBits_ccdee := List.mem_of_getElem? (i := 5) rfl
theorem mJxe99ae_doubleToLongBits_ccdee_1 : Cond.methodLink RJxe99ae 134 ⟨"java/lang/Double", "doubleToRawLongBits", "(D)J"⟩ ∈ wsJxe99ae_doubleToLongBits_ccdee := List.mem_of_getElem? (i := 1) rfl
theorem mJxe99ae_doubleToLongBits_ccdee_2 : Cond.native ⟨"java/lang/Double", "doubleToRawLongBits", "(D)J"⟩ ∈ wsJxe99ae_doubleToLongBits_ccdee := List.mem_of_getElem? (i := 2) rfl
theorem mJxe99ae_doubleToLongBits_ccdee_3 : Cond.static ⟨"java/lang/Double", "doubleToRawLongBits", "(D)J"⟩ ∈ wsJxe99ae_doubleToLongBits_ccdee := List.mem_of_getElem? (i := 3) rfl
theorem mJxe99ae_doubleToLongBits_ccdee_4 : Cond.initialized "java/lang/Double" ∈ wsJxe99ae_doubleToLongBits_ccdee := List.mem_of_getElem? (i := 4) rfl
set_option maxHeartbeats 4000000 in
set_option maxRecDepth 100000 in
theorem c_Jxe99ae_doubleToLongBits_ccdee (l : Launch) (D : va_G) (kI kJ kS : ClassId) (x0 : UInt64) {r : Int64} (hrun : fJxe99ae_doubleToLongBits_ccdee x0 = some r) : cL l D (tyL kI kJ kS) false yJxe99ae_doubleToLongBits_ccdee wsJxe99ae_doubleToLongBits_ccdee (rmk 1 0 0 24) [.double x0] [] [] r := by
  refine cL_of (cc := cJxe99ae_doubleToLongBits_ccdee) (maxL := 2) (by decide) rfl (Nat.le_of_ble_eq_true rfl) ?_
  intro p e s m av below meth c A Q ls hE hP hD hS hl hret
  have hE : ent_ p s m av meth c RJxe99ae cJxe99ae_doubleToLongBits_ccdee 2 (some .long) wsJxe99ae_doubleToLongBits_ccdee (tyL kI kJ kS) D A false := hE
  obtain ⟨hx, hb, hml, hown, hts, hr, hlocks, hK, hA, hst⟩ := id hE
  have hl : lv_has ls 2 [(0, .double x0)] := hl
  unfold fJxe99ae_doubleToLongBits_ccdee at hrun
  refine lv_dload_n hx hb dJxe99ae_doubleToLongBits_ccdee_0 rfl (lv_at hl 0 rfl) ?_
  obtain ⟨q_1, hq_1, hrun⟩ := bd_some hrun
  refine cI_callS (As := [.double x0]) (rest := []) (wr := []) (wN := []) hE (c_Jxe99ae_isNaN_b9ae7 l D kI kJ kS x0  hq_1) (va_cwS 1 hts gJxe99ae_doubleToLongBits_ccdee_Jxe99ae_isNaN_b9ae7 rfl rfl rfl (by decide +kernel) ⟨Nat.le_of_ble_eq_true rfl, Nat.le_of_ble_eq_true rfl⟩) hP hD hS [] [] [] rfl rfl rfl rfl (by decide) rfl rfl rfl hl.1 rfl (Nat.le_of_ble_eq_true rfl) dJxe99ae_doubleToLongBits_ccdee_1 ⟨Nat.le_of_ble_eq_true rfl, Nat.le_of_ble_eq_true rfl⟩ (fun H locs hP hD hS => ?_)
  refine lv_if_ne (tgt := 12) hx hb dJxe99ae_doubleToLongBits_ccdee_4 (by decide) (fun hc => ?_) (fun hc => ?_)
  · have hrun := it_f hc hrun
    refine lv_ldc2 (v := 9221120237041090560) hx hb hown (hts _ mJxe99ae_doubleToLongBits_ccdee_5) dJxe99ae_doubleToLongBits_ccdee_12 ?_
    obtain rfl := Option.some.inj hrun
    exact hret _ _ _ _ dJxe99ae_doubleToLongBits_ccdee_15 hP hD hS
  · have hrun := it_t hc hrun
    refine lv_dload_n hx hb dJxe99ae_doubleToLongBits_ccdee_7 rfl (lv_at hl 0 rfl) ?_
    refine vn_d2l hx hb (hml.trans hl.1.symm) hown (hts _ mJxe99ae_doubleToLongBits_ccdee_1) (hts _ mJxe99ae_doubleToLongBits_ccdee_2) (hts _ mJxe99ae_doubleToLongBits_ccdee_3) (hts _ mJxe99ae_doubleToLongBits_ccdee_4) (Nat.le_of_ble_eq_true rfl) (Nat.le_of_ble_eq_true rfl) dJxe99ae_doubleToLongBits_ccdee_8 ?_
    obtain rfl := Option.some.inj hrun
    exact hret _ _ _ _ dJxe99ae_doubleToLongBits_ccdee_11 hP hD hS
/-! ===== X7_digest ===== -/
theorem mX7_digest_3 : Cond.fieldLink RX7 205 "GateMazeModel" "hash" "J" ∈ wsX7_digest := List.mem_of_getElem? (i := 3) rfl
theorem mX7_digest_5 : Cond.fieldLink RX7 144 "GateMazeModel" "length" "I" ∈ wsX7_digest := List.mem_of_getElem? (i := 5) rfl
theorem mX7_digest_6 : Cond.fieldLink RX7 16 "GateMazeModel" "text" "[I" ∈ wsX7_digest := List.mem_of_getElem? (i := 6) rfl
theorem mX7_digest_4 : Cond.fieldLink RX7 7 "GateMazeModel" "z" "[I" ∈ wsX7_digest := List.mem_of_getElem? (i := 4) rfl
theorem mX7_digest_1 : Cond.fieldLink RX7 38 "GateMazeModel" "thrown" "I" ∈ wsX7_digest := List.mem_of_getElem? (i := 1) rfl
theorem mX7_digest_2 : Cond.constantLong RX7 213 (2423) ∈ wsX7_digest := List.mem_of_getElem? (i := 2) rfl
theorem iX7_digest_X7 : ∀ w ∈ u_ws RX7 TX7 16, w ∈ wsX7_digest := fun w h => List.mem_cons_of_mem _ (List.mem_append_right _ h)
set_option maxHeartbeats 4000000 in
set_option maxRecDepth 100000 in
theorem c_X7_digest (l : Launch) (D : va_G) (kI kJ kS : ClassId) (to : Nat) (ta : Nat → Nat) (z : (Nat → Int32)) (nst : Int32) (his : (Nat → Int32)) (len : Int32) (txt : (Nat → Int32)) (thr : Int32) (god : (Nat → Int64)) (prm : (Nat → Int32)) (npr : Int32) (cov : (Nat → Int32)) (siz : (Nat → Int32)) (pts : (Nat → Int32)) (rea : Int32) (pla : Int32) (bef : (Nat → Int32)) (has : Int64) {r : Int64 × (Nat → Int32) × Int32 × (Nat → Int64) × (Nat → Int32) × Int32 × (Nat → Int32) × (Nat → Int32) × Int64} (hrun : fX7_digest z nst len txt god prm npr cov siz = some r) : cL l D (tyL kI kJ kS) false yX7_digest wsX7_digest (rmk 7 0 0 163) [.ref to] (wX7 kI kJ to ta z nst his len txt thr god prm npr cov siz pts rea pla bef has) (wX7 kI kJ to ta r.2.1 nst his len txt r.2.2.1 r.2.2.2.1 r.2.2.2.2.1 r.2.2.2.2.2.1 r.2.2.2.2.2.2.1 r.2.2.2.2.2.2.2.1 pts rea pla bef r.2.2.2.2.2.2.2.2) r.1 := by
  refine cL_of (cc := cX7_digest) (maxL := 2) (by decide) rfl (Nat.le_of_ble_eq_true rfl) ?_
  intro p e s m av below meth c A Q ls hE hP hD hS hl hret
  have hE : ent_ p s m av meth c RX7 cX7_digest 2 (some .long) wsX7_digest (tyL kI kJ kS) D A false := hE
  obtain ⟨hx, hb, hml, hown, hts, hr, hlocks, hK, hA, hst⟩ := id hE
  have hl : lv_has ls 2 [(0, .ref to)] := hl
  have c_J149 : ∀ (z : (Nat → Int32)) (thr : Int32) (god : (Nat → Int64)) (prm : (Nat → Int32)) (npr : Int32) (cov : (Nat → Int32)) (siz : (Nat → Int32)) (has : Int64), fX7_digest_J149 z thr god prm npr cov siz has = some r → wAt p l e (rmk 7 0 0 163) s m av below meth c D A 2 0 0 Q 149 [] [(0, .ref to)] (wX7 kI kJ to ta z nst his len txt thr god prm npr cov siz pts rea pla bef has) := by
    intro z thr god prm npr cov siz has hrun H locs ls hP hD hS hl
    unfold fX7_digest_J149 at hrun
    refine lv_aload_n hx hb dX7_digest_149 rfl (lv_at hl 0 rfl) ?_
    refine va_get (D := D) (ci := 6) (v := .long has) (C := RX7) (T := TX7) (N := 16) hx hb hts iX7_digest_X7 hown hK hP 0 rfl rfl 15 (by decide) (hts _ mX7_digest_3) (fun _ h9 => h9) rfl dX7_digest_150 ?_
    obtain rfl := Option.some.inj hrun
    exact hret _ _ _ _ dX7_digest_153 hP hD hS
  have c_L124 : ∀ (z : (Nat → Int32)) (thr : Int32) (god : (Nat → Int64)) (prm : (Nat → Int32)) (npr : Int32) (cov : (Nat → Int32)) (siz : (Nat → Int32)) (n : Nat) (x1 : Int32) (has : Int64), fX7_digest_L124 z len txt thr god prm npr cov siz n x1 has = some r → wAt p l e (rmk 7 0 0 163) s m av below meth c D A 2 0 0 Q 124 [] [(0, .ref to), (1, .int x1)] (wX7 kI kJ to ta z nst his len txt thr god prm npr cov siz pts rea pla bef has) := by
    intro z thr god prm npr cov siz n
    induction n with
    | zero =>
      intro x1 has hrun
      rw [fX7_digest_L124] at hrun
      cases hrun
    | succ n ih =>
      intro x1 has hrun H locs ls hP hD hS hl
      rw [fX7_digest_L124] at hrun
      refine lv_iload_n hx hb dX7_digest_124 rfl (lv_at hl 1 rfl) ?_
      refine lv_aload_n hx hb dX7_digest_125 rfl (lv_at hl 0 rfl) ?_
      refine va_get (D := D) (ci := 6) (v := .int len) (C := RX7) (T := TX7) (N := 16) hx hb hts iX7_digest_X7 hown hK hP 0 rfl rfl 3 (by decide) (hts _ mX7_digest_5) (fun _ h9 => h9) rfl dX7_digest_126 ?_
      refine lv_icmp_ge (tgt := 149) hx hb dX7_digest_129 (by decide) (fun hc => ?_) (fun hc => ?_)
      · have hrun := it_t hc hrun
        exact c_J149 z thr god prm npr cov siz has  hrun _ _ _ hP hD hS (lv_sub hl [0] rfl)
      · have hrun := it_f hc hrun
        refine lv_aload_n hx hb dX7_digest_132 rfl (lv_at hl 0 rfl) ?_
        refine lv_aload_n hx hb dX7_digest_133 rfl (lv_at hl 0 rfl) ?_
        refine va_get (D := D) (ci := 6) (v := .ref (ta 2)) (C := RX7) (T := TX7) (N := 16) hx hb hts iX7_digest_X7 hown hK hP 0 rfl rfl 4 (by decide) (hts _ mX7_digest_6) (fun _ h9 => h9) rfl dX7_digest_134 ?_
        refine lv_iload_n hx hb dX7_digest_137 rfl (lv_at hl 1 rfl) ?_
        obtain ⟨hin, hrun⟩ := gd_some hrun
        refine va_iald hx hb hK hP 3 0 rfl rfl hin dX7_digest_138 ?_
        refine lv_i2l hx hb dX7_digest_139 rfl ?_
        obtain ⟨q_1, hq_1, hrun⟩ := bd_some hrun
        refine cV_callV (As := [.long ((txt x1.toNatClampNeg).toInt64)]) (rest := []) (wr := []) (wN := (wX7 kI kJ to ta z nst his len txt thr god prm npr cov siz pts rea pla bef q_1)) (ci := 6) (q0 := 0) hE (c_X7_mix l D kI kJ kS to ta ((txt x1.toNatClampNeg).toInt64) z nst his len txt thr god prm npr cov siz pts rea pla bef has hq_1) (cwV 1 hts gX7_digest_X7_mix rfl rfl rfl (by decide +kernel) ⟨Nat.le_of_ble_eq_true rfl, Nat.le_of_ble_eq_true rfl⟩) hP hD hS [0, 1, 2, 3, 4, 5, 6, 7, 8, 9] [] [0, 1, 2, 3, 4, 5, 6, 7, 8, 9] rfl rfl rfl rfl (by decide) rfl rfl rfl rfl rfl hl.1 rfl (Nat.le_of_ble_eq_true rfl) dX7_digest_140 ⟨Nat.le_of_ble_eq_true rfl, Nat.le_of_ble_eq_true rfl⟩ (fun H locs hP hD hS => ?_)
        refine lv_iinc (v := x1 + 1) (lv' := [(1, .int (x1 + 1)), (0, .ref to)]) hx hb dX7_digest_143 hl (k := 1) rfl rfl (by decide) rfl (fun ls hl => ?_)
        refine lv_goto (tgt := 124) hx hb dX7_digest_146 (by decide) ?_
        exact ih (x1 + 1) q_1  hrun _ _ _ hP hD hS (lv_sub hl [1, 0] rfl)
  have c_J93 : ∀ (z : (Nat → Int32)) (thr : Int32) (god : (Nat → Int64)) (prm : (Nat → Int32)) (npr : Int32) (cov : (Nat → Int32)) (siz : (Nat → Int32)) (has : Int64), fX7_digest_J93 z len txt thr god prm npr cov siz has = some r → wAt p l e (rmk 7 0 0 163) s m av below meth c D A 2 0 0 Q 93 [] [(0, .ref to)] (wX7 kI kJ to ta z nst his len txt thr god prm npr cov siz pts rea pla bef has) := by
    intro z thr god prm npr cov siz has hrun H locs ls hP hD hS hl
    unfold fX7_digest_J93 at hrun
    refine lv_aload_n hx hb dX7_digest_93 rfl (lv_at hl 0 rfl) ?_
    refine lv_aload_n hx hb dX7_digest_94 rfl (lv_at hl 0 rfl) ?_
    obtain ⟨q_2, hq_2, hrun⟩ := bd_some hrun
    refine cI_callV (As := []) (rest := [.ref to]) (wr := []) (wN := (wX7 kI kJ to ta q_2.2 nst his len txt thr god prm npr cov siz pts rea pla bef has)) (ci := 6) (q0 := 0) hE (c_X7_harmlessNow l D kI kJ kS to ta  z nst his len txt thr god prm npr cov siz pts rea pla bef has hq_2) (cwV 0 hts gX7_digest_X7_harmlessNow rfl rfl rfl (by decide +kernel) ⟨Nat.le_of_ble_eq_true rfl, Nat.le_of_ble_eq_true rfl⟩) hP hD hS [0, 1, 2, 3, 4, 5, 6, 7, 8, 9] [] [0, 1, 2, 3, 4, 5, 6, 7, 8, 9] rfl rfl rfl rfl (by decide) rfl rfl rfl rfl rfl hl.1 rfl (Nat.le_of_ble_eq_true rfl) dX7_digest_95 ⟨Nat.le_of_ble_eq_true rfl, Nat.le_of_ble_eq_true rfl⟩ (fun H locs hP hD hS => ?_)
    refine lv_i2l hx hb dX7_digest_98 rfl ?_
    obtain ⟨q_3, hq_3, hrun⟩ := bd_some hrun
    refine cV_callV (As := [.long q_2.1.toInt64]) (rest := []) (wr := []) (wN := (wX7 kI kJ to ta q_2.2 nst his len txt thr god prm npr cov siz pts rea pla bef q_3)) (ci := 6) (q0 := 0) hE (c_X7_mix l D kI kJ kS to ta q_2.1.toInt64 q_2.2 nst his len txt thr god prm npr cov siz pts rea pla bef has hq_3) (cwV 1 hts gX7_digest_X7_mix rfl rfl rfl (by decide +kernel) ⟨Nat.le_of_ble_eq_true rfl, Nat.le_of_ble_eq_true rfl⟩) hP hD hS [0, 1, 2, 3, 4, 5, 6, 7, 8, 9] [] [0, 1, 2, 3, 4, 5, 6, 7, 8, 9] rfl rfl rfl rfl (by decide) rfl rfl rfl rfl rfl hl.1 rfl (Nat.le_of_ble_eq_true rfl) dX7_digest_99 ⟨Nat.le_of_ble_eq_true rfl, Nat.le_of_ble_eq_true rfl⟩ (fun H locs hP hD hS => ?_)
    refine lv_aload_n hx hb dX7_digest_102 rfl (lv_at hl 0 rfl) ?_
    refine lv_aload_n hx hb dX7_digest_103 rfl (lv_at hl 0 rfl) ?_
    obtain ⟨q_4, hq_4, hrun⟩ := bd_some hrun
    refine cD_callV (As := []) (rest := [.ref to]) (wr := []) (wN := (wX7 kI kJ to ta q_2.2 nst his len txt thr god prm npr cov siz pts rea pla bef q_3)) (ci := 6) (q0 := 0) hE (c_X7_share l D kI kJ kS to ta  q_2.2 nst his len txt thr god prm npr cov siz pts rea pla bef q_3 hq_4) (cwV 0 hts gX7_digest_X7_share rfl rfl rfl (by decide +kernel) ⟨Nat.le_of_ble_eq_true rfl, Nat.le_of_ble_eq_true rfl⟩) hP hD hS [0, 1, 2, 3, 4, 5, 6, 7, 8, 9] [] [0, 1, 2, 3, 4, 5, 6, 7, 8, 9] rfl rfl rfl rfl (by decide) rfl rfl rfl rfl rfl hl.1 rfl (Nat.le_of_ble_eq_true rfl) dX7_digest_104 ⟨Nat.le_of_ble_eq_true rfl, Nat.le_of_ble_eq_true rfl⟩ (fun H locs hP hD hS => ?_)
    obtain ⟨q_5, hq_5, hrun⟩ := bd_some hrun
    refine cL_callS (As := [.double q_4]) (rest := [.ref to]) (wr := (wX7 kI kJ to ta q_2.2 nst his len txt thr god prm npr cov siz pts rea pla bef q_3)) (wN := (wX7 kI kJ to ta q_2.2 nst his len txt thr god prm npr cov siz pts rea pla bef q_3)) hE (c_Jxe99ae_doubleToLongBits_ccdee l D kI kJ kS q_4  hq_5) (va_cwS 1 hts gX7_digest_Jxe99ae_doubleToLongBits_ccdee rfl rfl rfl (by decide +kernel) ⟨Nat.le_of_ble_eq_true rfl, Nat.le_of_ble_eq_true rfl⟩) hP hD hS [] [0, 1, 2, 3, 4, 5, 6, 7, 8, 9] [0, 1, 2, 3, 4, 5, 6, 7, 8, 9] rfl rfl rfl rfl (by decide) rfl rfl rfl hl.1 rfl (Nat.le_of_ble_eq_true rfl) dX7_digest_107 ⟨Nat.le_of_ble_eq_true rfl, Nat.le_of_ble_eq_true rfl⟩ (fun H locs hP hD hS => ?_)
    obtain ⟨q_6, hq_6, hrun⟩ := bd_some hrun
    refine cV_callV (As := [.long q_5]) (rest := []) (wr := []) (wN := (wX7 kI kJ to ta q_2.2 nst his len txt thr god prm npr cov siz pts rea pla bef q_6)) (ci := 6) (q0 := 0) hE (c_X7_mix l D kI kJ kS to ta q_5 q_2.2 nst his len txt thr god prm npr cov siz pts rea pla bef q_3 hq_6) (cwV 1 hts gX7_digest_X7_mix rfl rfl rfl (by decide +kernel) ⟨Nat.le_of_ble_eq_true rfl, Nat.le_of_ble_eq_true rfl⟩) hP hD hS [0, 1, 2, 3, 4, 5, 6, 7, 8, 9] [] [0, 1, 2, 3, 4, 5, 6, 7, 8, 9] rfl rfl rfl rfl (by decide) rfl rfl rfl rfl rfl hl.1 rfl (Nat.le_of_ble_eq_true rfl) dX7_digest_110 ⟨Nat.le_of_ble_eq_true rfl, Nat.le_of_ble_eq_true rfl⟩ (fun H locs hP hD hS => ?_)
    refine lv_aload_n hx hb dX7_digest_113 rfl (lv_at hl 0 rfl) ?_
    refine lv_aload_n hx hb dX7_digest_114 rfl (lv_at hl 0 rfl) ?_
    refine va_get (D := D) (ci := 6) (v := .int len) (C := RX7) (T := TX7) (N := 16) hx hb hts iX7_digest_X7 hown hK hP 0 rfl rfl 3 (by decide) (hts _ mX7_digest_5) (fun _ h9 => h9) rfl dX7_digest_115 ?_
    refine lv_i2l hx hb dX7_digest_118 rfl ?_
    obtain ⟨q_7, hq_7, hrun⟩ := bd_some hrun
    refine cV_callV (As := [.long len.toInt64]) (rest := []) (wr := []) (wN := (wX7 kI kJ to ta q_2.2 nst his len txt thr god prm npr cov siz pts rea pla bef q_7)) (ci := 6) (q0 := 0) hE (c_X7_mix l D kI kJ kS to ta len.toInt64 q_2.2 nst his len txt thr god prm npr cov siz pts rea pla bef q_6 hq_7) (cwV 1 hts gX7_digest_X7_mix rfl rfl rfl (by decide +kernel) ⟨Nat.le_of_ble_eq_true rfl, Nat.le_of_ble_eq_true rfl⟩) hP hD hS [0, 1, 2, 3, 4, 5, 6, 7, 8, 9] [] [0, 1, 2, 3, 4, 5, 6, 7, 8, 9] rfl rfl rfl rfl (by decide) rfl rfl rfl rfl rfl hl.1 rfl (Nat.le_of_ble_eq_true rfl) dX7_digest_119 ⟨Nat.le_of_ble_eq_true rfl, Nat.le_of_ble_eq_true rfl⟩ (fun H locs hP hD hS => ?_)
    refine lv_iconst (v := 0) hx hb dX7_digest_122 (by decide) ?_
    refine lv_istore_n (lv' := [(1, .int 0), (0, .ref to)]) hx hb dX7_digest_123 rfl hl (by decide) rfl (fun ls hl => ?_)
    exact c_L124 q_2.2 thr god prm npr cov siz 5000 0 q_7  hrun _ _ _ hP hD hS (lv_sub hl [1, 0] rfl)
  have c_L60 : ∀ (thr : Int32) (n : Nat) (x1 : Int32) (z : (Nat → Int32)) (god : (Nat → Int64)) (prm : (Nat → Int32)) (npr : Int32) (cov : (Nat → Int32)) (siz : (Nat → Int32)) (has : Int64), fX7_digest_L60 len txt thr n x1 z god prm npr cov siz has = some r → wAt p l e (rmk 7 0 0 163) s m av below meth c D A 2 0 0 Q 60 [] [(0, .ref to), (1, .int x1)] (wX7 kI kJ to ta z nst his len txt thr god prm npr cov siz pts rea pla bef has) := by
    intro thr n
    induction n with
    | zero =>
      intro x1 z god prm npr cov siz has hrun
      rw [fX7_digest_L60] at hrun
      cases hrun
    | succ n ih =>
      intro x1 z god prm npr cov siz has hrun H locs ls hP hD hS hl
      rw [fX7_digest_L60] at hrun
      refine lv_iload_n hx hb dX7_digest_60 rfl (lv_at hl 1 rfl) ?_
      refine lv_iconst (v := 2) hx hb dX7_digest_61 (by decide) ?_
      refine lv_aload_n hx hb dX7_digest_62 rfl (lv_at hl 0 rfl) ?_
      refine va_get (D := D) (ci := 6) (v := .ref (ta 0)) (C := RX7) (T := TX7) (N := 16) hx hb hts iX7_digest_X7 hown hK hP 0 rfl rfl 0 (by decide) (hts _ mX7_digest_4) (fun _ h9 => h9) rfl dX7_digest_63 ?_
      refine lv_iconst (v := 0) hx hb dX7_digest_66 (by decide) ?_
      obtain ⟨hin, hrun⟩ := gd_some hrun
      refine va_iald hx hb hK hP 1 0 rfl rfl hin dX7_digest_67 ?_
      refine lv_imul hx hb dX7_digest_68 ?_
      refine lv_icmp_ge (tgt := 93) hx hb dX7_digest_69 (by decide) (fun hc => ?_) (fun hc => ?_)
      · have hrun := it_t hc hrun
        exact c_J93 z thr god prm npr cov siz has  hrun _ _ _ hP hD hS (lv_sub hl [0] rfl)
      · have hrun := it_f hc hrun
        refine lv_aload_n hx hb dX7_digest_72 rfl (lv_at hl 0 rfl) ?_
        refine lv_aload_n hx hb dX7_digest_73 rfl (lv_at hl 0 rfl) ?_
        refine lv_iload_n hx hb dX7_digest_74 rfl (lv_at hl 1 rfl) ?_
        refine lv_iconst (v := 2) hx hb dX7_digest_75 (by decide) ?_
        refine lv_idiv hx hb dX7_digest_76 (by decide) ?_
        refine lv_iload_n hx hb dX7_digest_77 rfl (lv_at hl 1 rfl) ?_
        refine lv_iconst (v := 2) hx hb dX7_digest_78 (by decide) ?_
        refine lv_irem hx hb dX7_digest_79 (by decide) ?_
        obtain ⟨q_8, hq_8, hrun⟩ := bd_some hrun
        refine cI_callV (As := [.int (x1 / 2), .int (x1 - x1 / 2 * 2)]) (rest := [.ref to]) (wr := []) (wN := (wX7 kI kJ to ta q_8.2.1 nst his len txt thr q_8.2.2.1 q_8.2.2.2.1 q_8.2.2.2.2.1 q_8.2.2.2.2.2.1 q_8.2.2.2.2.2.2 pts rea pla bef has)) (ci := 6) (q0 := 0) hE (c_X7_forgottenThen l D kI kJ kS to ta (x1 / 2) (x1 - x1 / 2 * 2) z nst his len txt thr god prm npr cov siz pts rea pla bef has hq_8) (cwV 2 hts gX7_digest_X7_forgottenThen rfl rfl rfl (by decide +kernel) ⟨Nat.le_of_ble_eq_true rfl, Nat.le_of_ble_eq_true rfl⟩) hP hD hS [0, 1, 2, 3, 4, 5, 6, 7, 8, 9] [] [0, 1, 2, 3, 4, 5, 6, 7, 8, 9] rfl rfl rfl rfl (by decide) rfl rfl rfl rfl rfl hl.1 rfl (Nat.le_of_ble_eq_true rfl) dX7_digest_80 ⟨Nat.le_of_ble_eq_true rfl, Nat.le_of_ble_eq_true rfl⟩ (fun H locs hP hD hS => ?_)
        refine lv_i2l hx hb dX7_digest_83 rfl ?_
        obtain ⟨q_9, hq_9, hrun⟩ := bd_some hrun
        refine cV_callV (As := [.long q_8.1.toInt64]) (rest := []) (wr := []) (wN := (wX7 kI kJ to ta q_8.2.1 nst his len txt thr q_8.2.2.1 q_8.2.2.2.1 q_8.2.2.2.2.1 q_8.2.2.2.2.2.1 q_8.2.2.2.2.2.2 pts rea pla bef q_9)) (ci := 6) (q0 := 0) hE (c_X7_mix l D kI kJ kS to ta q_8.1.toInt64 q_8.2.1 nst his len txt thr q_8.2.2.1 q_8.2.2.2.1 q_8.2.2.2.2.1 q_8.2.2.2.2.2.1 q_8.2.2.2.2.2.2 pts rea pla bef has hq_9) (cwV 1 hts gX7_digest_X7_mix rfl rfl rfl (by decide +kernel) ⟨Nat.le_of_ble_eq_true rfl, Nat.le_of_ble_eq_true rfl⟩) hP hD hS [0, 1, 2, 3, 4, 5, 6, 7, 8, 9] [] [0, 1, 2, 3, 4, 5, 6, 7, 8, 9] rfl rfl rfl rfl (by decide) rfl rfl rfl rfl rfl hl.1 rfl (Nat.le_of_ble_eq_true rfl) dX7_digest_84 ⟨Nat.le_of_ble_eq_true rfl, Nat.le_of_ble_eq_true rfl⟩ (fun H locs hP hD hS => ?_)
        refine lv_iinc (v := x1 + 1) (lv' := [(1, .int (x1 + 1)), (0, .ref to)]) hx hb dX7_digest_87 hl (k := 1) rfl rfl (by decide) rfl (fun ls hl => ?_)
        refine lv_goto (tgt := 60) hx hb dX7_digest_90 (by decide) ?_
        exact ih (x1 + 1) q_8.2.1 q_8.2.2.1 q_8.2.2.2.1 q_8.2.2.2.2.1 q_8.2.2.2.2.2.1 q_8.2.2.2.2.2.2 q_9  hrun _ _ _ hP hD hS (lv_sub hl [1, 0] rfl)
  have c_J58 : ∀ (z : (Nat → Int32)) (thr : Int32) (god : (Nat → Int64)) (prm : (Nat → Int32)) (npr : Int32) (cov : (Nat → Int32)) (siz : (Nat → Int32)) (has : Int64), fX7_digest_J58 z len txt thr god prm npr cov siz has = some r → wAt p l e (rmk 7 0 0 163) s m av below meth c D A 2 0 0 Q 58 [] [(0, .ref to)] (wX7 kI kJ to ta z nst his len txt thr god prm npr cov siz pts rea pla bef has) := by
    intro z thr god prm npr cov siz has hrun H locs ls hP hD hS hl
    unfold fX7_digest_J58 at hrun
    refine lv_iconst (v := 0) hx hb dX7_digest_58 (by decide) ?_
    refine lv_istore_n (lv' := [(1, .int 0), (0, .ref to)]) hx hb dX7_digest_59 rfl hl (by decide) rfl (fun ls hl => ?_)
    exact c_L60 thr 5000 0 z god prm npr cov siz has  hrun _ _ _ hP hD hS (lv_sub hl [1, 0] rfl)
  have c_L42 : ∀ (z : (Nat → Int32)) (thr : Int32) (cov : (Nat → Int32)) (siz : (Nat → Int32)) (n : Nat) (x1 : Int32) (god : (Nat → Int64)) (prm : (Nat → Int32)) (npr : Int32) (has : Int64), fX7_digest_L42 z len txt thr cov siz n x1 god prm npr has = some r → wAt p l e (rmk 7 0 0 163) s m av below meth c D A 2 0 0 Q 42 [] [(0, .ref to), (1, .int x1)] (wX7 kI kJ to ta z nst his len txt thr god prm npr cov siz pts rea pla bef has) := by
    intro z thr cov siz n
    induction n with
    | zero =>
      intro x1 god prm npr has hrun
      rw [fX7_digest_L42] at hrun
      cases hrun
    | succ n ih =>
      intro x1 god prm npr has hrun H locs ls hP hD hS hl
      rw [fX7_digest_L42] at hrun
      refine lv_iload_n hx hb dX7_digest_42 rfl (lv_at hl 1 rfl) ?_
      refine lv_iconst (v := 4) hx hb dX7_digest_43 (by decide) ?_
      refine lv_icmp_ge (tgt := 58) hx hb dX7_digest_44 (by decide) (fun hc => ?_) (fun hc => ?_)
      · have hrun := it_t hc hrun
        exact c_J58 z thr god prm npr cov siz has  hrun _ _ _ hP hD hS (lv_sub hl [0] rfl)
      · have hrun := it_f hc hrun
        refine lv_aload_n hx hb dX7_digest_47 rfl (lv_at hl 0 rfl) ?_
        refine lv_iload_n hx hb dX7_digest_48 rfl (lv_at hl 1 rfl) ?_
        obtain ⟨q_10, hq_10, hrun⟩ := bd_some hrun
        refine cV_callV (As := [.int x1]) (rest := []) (wr := []) (wN := (wX7 kI kJ to ta z nst his len txt thr q_10.1 q_10.2.1 q_10.2.2.1 cov siz pts rea pla bef q_10.2.2.2)) (ci := 6) (q0 := 0) hE (c_X7_mixOutput l D kI kJ kS to ta x1 z nst his len txt thr god prm npr cov siz pts rea pla bef has hq_10) (cwV 1 hts gX7_digest_X7_mixOutput rfl rfl rfl (by decide +kernel) ⟨Nat.le_of_ble_eq_true rfl, Nat.le_of_ble_eq_true rfl⟩) hP hD hS [0, 1, 2, 3, 4, 5, 6, 7, 8, 9] [] [0, 1, 2, 3, 4, 5, 6, 7, 8, 9] rfl rfl rfl rfl (by decide) rfl rfl rfl rfl rfl hl.1 rfl (Nat.le_of_ble_eq_true rfl) dX7_digest_49 ⟨Nat.le_of_ble_eq_true rfl, Nat.le_of_ble_eq_true rfl⟩ (fun H locs hP hD hS => ?_)
        refine lv_iinc (v := x1 + 1) (lv' := [(1, .int (x1 + 1)), (0, .ref to)]) hx hb dX7_digest_52 hl (k := 1) rfl rfl (by decide) rfl (fun ls hl => ?_)
        refine lv_goto (tgt := 42) hx hb dX7_digest_55 (by decide) ?_
        exact ih (x1 + 1) q_10.1 q_10.2.1 q_10.2.2.1 q_10.2.2.2  hrun _ _ _ hP hD hS (lv_sub hl [1, 0] rfl)
  have c_J40 : ∀ (z : (Nat → Int32)) (thr : Int32) (god : (Nat → Int64)) (prm : (Nat → Int32)) (npr : Int32) (cov : (Nat → Int32)) (siz : (Nat → Int32)) (has : Int64), fX7_digest_J40 z len txt thr god prm npr cov siz has = some r → wAt p l e (rmk 7 0 0 163) s m av below meth c D A 2 0 0 Q 40 [] [(0, .ref to)] (wX7 kI kJ to ta z nst his len txt thr god prm npr cov siz pts rea pla bef has) := by
    intro z thr god prm npr cov siz has hrun H locs ls hP hD hS hl
    unfold fX7_digest_J40 at hrun
    refine lv_iconst (v := 0) hx hb dX7_digest_40 (by decide) ?_
    refine lv_istore_n (lv' := [(1, .int 0), (0, .ref to)]) hx hb dX7_digest_41 rfl hl (by decide) rfl (fun ls hl => ?_)
    exact c_L42 z thr cov siz 5000 0 god prm npr has  hrun _ _ _ hP hD hS (lv_sub hl [1, 0] rfl)
  have c_L18 : ∀ (z : (Nat → Int32)) (thr : Int32) (god : (Nat → Int64)) (prm : (Nat → Int32)) (npr : Int32) (cov : (Nat → Int32)) (siz : (Nat → Int32)) (n : Nat) (x1 : Int32) (has : Int64), fX7_digest_L18 z nst len txt thr god prm npr cov siz n x1 has = some r → wAt p l e (rmk 7 0 0 163) s m av below meth c D A 2 0 0 Q 18 [] [(0, .ref to), (1, .int x1)] (wX7 kI kJ to ta z nst his len txt thr god prm npr cov siz pts rea pla bef has) := by
    intro z thr god prm npr cov siz n
    induction n with
    | zero =>
      intro x1 has hrun
      rw [fX7_digest_L18] at hrun
      cases hrun
    | succ n ih =>
      intro x1 has hrun H locs ls hP hD hS hl
      rw [fX7_digest_L18] at hrun
      refine lv_iload_n hx hb dX7_digest_18 rfl (lv_at hl 1 rfl) ?_
      refine lv_bipush (v := 11) hx hb dX7_digest_19 (by decide) ?_
      refine lv_icmp_ge (tgt := 40) hx hb dX7_digest_21 (by decide) (fun hc => ?_) (fun hc => ?_)
      · have hrun := it_t hc hrun
        exact c_J40 z thr god prm npr cov siz has  hrun _ _ _ hP hD hS (lv_sub hl [0] rfl)
      · have hrun := it_f hc hrun
        refine lv_aload_n hx hb dX7_digest_24 rfl (lv_at hl 0 rfl) ?_
        refine lv_aload_n hx hb dX7_digest_25 rfl (lv_at hl 0 rfl) ?_
        refine lv_iload_n hx hb dX7_digest_26 rfl (lv_at hl 1 rfl) ?_
        obtain ⟨q_11, hq_11, hrun⟩ := bd_some hrun
        refine cI_callV (As := [.int x1]) (rest := [.ref to]) (wr := []) (wN := (wX7 kI kJ to ta z nst his len txt thr god prm npr cov siz pts rea pla bef has)) (ci := 6) (q0 := 0) hE (c_X7_counted l D kI kJ kS to ta x1 z nst his len txt thr god prm npr cov siz pts rea pla bef has hq_11) (cwV 1 hts gX7_digest_X7_counted rfl rfl rfl (by decide +kernel) ⟨Nat.le_of_ble_eq_true rfl, Nat.le_of_ble_eq_true rfl⟩) hP hD hS [0, 1, 2, 3, 4, 5, 6, 7, 8, 9] [] [0, 1, 2, 3, 4, 5, 6, 7, 8, 9] rfl rfl rfl rfl (by decide) rfl rfl rfl rfl rfl hl.1 rfl (Nat.le_of_ble_eq_true rfl) dX7_digest_27 ⟨Nat.le_of_ble_eq_true rfl, Nat.le_of_ble_eq_true rfl⟩ (fun H locs hP hD hS => ?_)
        refine lv_i2l hx hb dX7_digest_30 rfl ?_
        obtain ⟨q_12, hq_12, hrun⟩ := bd_some hrun
        refine cV_callV (As := [.long q_11.toInt64]) (rest := []) (wr := []) (wN := (wX7 kI kJ to ta z nst his len txt thr god prm npr cov siz pts rea pla bef q_12)) (ci := 6) (q0 := 0) hE (c_X7_mix l D kI kJ kS to ta q_11.toInt64 z nst his len txt thr god prm npr cov siz pts rea pla bef has hq_12) (cwV 1 hts gX7_digest_X7_mix rfl rfl rfl (by decide +kernel) ⟨Nat.le_of_ble_eq_true rfl, Nat.le_of_ble_eq_true rfl⟩) hP hD hS [0, 1, 2, 3, 4, 5, 6, 7, 8, 9] [] [0, 1, 2, 3, 4, 5, 6, 7, 8, 9] rfl rfl rfl rfl (by decide) rfl rfl rfl rfl rfl hl.1 rfl (Nat.le_of_ble_eq_true rfl) dX7_digest_31 ⟨Nat.le_of_ble_eq_true rfl, Nat.le_of_ble_eq_true rfl⟩ (fun H locs hP hD hS => ?_)
        refine lv_iinc (v := x1 + 1) (lv' := [(1, .int (x1 + 1)), (0, .ref to)]) hx hb dX7_digest_34 hl (k := 1) rfl rfl (by decide) rfl (fun ls hl => ?_)
        refine lv_goto (tgt := 18) hx hb dX7_digest_37 (by decide) ?_
        exact ih (x1 + 1) q_12  hrun _ _ _ hP hD hS (lv_sub hl [1, 0] rfl)
  unfold fX7_digest at hrun
  refine lv_aload_n hx hb dX7_digest_0 rfl (lv_at hl 0 rfl) ?_
  refine lv_iconst (v := 0) hx hb dX7_digest_1 (by decide) ?_
  refine va_put (D := D) (ci := 6) (v := .int 0) (ty := .int) (C := RX7) (T := TX7) (N := 16) hx hb hts iX7_digest_X7 tyX7 tyX7_ok nmX7 hown hK hP hD hS 0 rfl rfl 5 (by decide) (hts _ mX7_digest_1) (fun _ h9 => h9) rfl (by decide +kernel) rfl rfl (Nat.le_of_ble_eq_true rfl) dX7_digest_2 (fun H locs hP hD hS => ?_)
  have hP : va_P D vwCl (wX7 kI kJ to ta z nst his len txt 0 god prm npr cov siz pts rea pla bef has) H := hP
  have hD : va_D A (wX7 kI kJ to ta z nst his len txt 0 god prm npr cov siz pts rea pla bef has) := hD
  refine lv_aload_n hx hb dX7_digest_5 rfl (lv_at hl 0 rfl) ?_
  obtain ⟨q_13, hq_13, hrun⟩ := bd_some hrun
  refine cV_callV (As := []) (rest := []) (wr := []) (wN := (wX7 kI kJ to ta z nst his len txt 0 q_13.1 q_13.2.1 q_13.2.2.1 q_13.2.2.2.1 q_13.2.2.2.2 pts rea pla bef has)) (ci := 6) (q0 := 0) hE (c_X7_layAll l D kI kJ kS to ta  z nst his len txt 0 god prm npr cov siz pts rea pla bef has hq_13) (cwV 0 hts gX7_digest_X7_layAll rfl rfl rfl (by decide +kernel) ⟨Nat.le_of_ble_eq_true rfl, Nat.le_of_ble_eq_true rfl⟩) hP hD hS [0, 1, 2, 3, 4, 5, 6, 7, 8, 9] [] [0, 1, 2, 3, 4, 5, 6, 7, 8, 9] rfl rfl rfl rfl (by decide) rfl rfl rfl rfl rfl hl.1 rfl (Nat.le_of_ble_eq_true rfl) dX7_digest_6 ⟨Nat.le_of_ble_eq_true rfl, Nat.le_of_ble_eq_true rfl⟩ (fun H locs hP hD hS => ?_)
  refine lv_aload_n hx hb dX7_digest_9 rfl (lv_at hl 0 rfl) ?_
  refine lv_ldc2 (v := 2423) hx hb hown (hts _ mX7_digest_2) dX7_digest_10 ?_
  refine va_put (D := D) (ci := 6) (v := .long 2423) (ty := .long) (C := RX7) (T := TX7) (N := 16) hx hb hts iX7_digest_X7 tyX7 tyX7_ok nmX7 hown hK hP hD hS 0 rfl rfl 15 (by decide) (hts _ mX7_digest_3) (fun _ h9 => h9) rfl (by decide +kernel) rfl rfl (Nat.le_of_ble_eq_true rfl) dX7_digest_13 (fun H locs hP hD hS => ?_)
  have hP : va_P D vwCl (wX7 kI kJ to ta z nst his len txt 0 q_13.1 q_13.2.1 q_13.2.2.1 q_13.2.2.2.1 q_13.2.2.2.2 pts rea pla bef 2423) H := hP
  have hD : va_D A (wX7 kI kJ to ta z nst his len txt 0 q_13.1 q_13.2.1 q_13.2.2.1 q_13.2.2.2.1 q_13.2.2.2.2 pts rea pla bef 2423) := hD
  refine lv_iconst (v := 0) hx hb dX7_digest_16 (by decide) ?_
  refine lv_istore_n (lv' := [(1, .int 0), (0, .ref to)]) hx hb dX7_digest_17 rfl hl (by decide) rfl (fun ls hl => ?_)
  exact c_L18 z 0 q_13.1 q_13.2.1 q_13.2.2.1 q_13.2.2.2.1 q_13.2.2.2.2 5000 0 2423  hrun _ _ _ hP hD hS (lv_sub hl [1, 0] rfl)
